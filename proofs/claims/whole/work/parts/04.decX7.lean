theorem dX7_init_0 : decode cX7_init 0 = .ok (.aload_n 0, 1) := by decide +kernel
theorem dX7_init_1 : decode cX7_init 1 = .ok (.invokespecial 1, 3) := by decide +kernel
theorem dX7_init_4 : decode cX7_init 4 = .ok (.aload_n 0, 1) := by decide +kernel
theorem dX7_init_5 : decode cX7_init 5 = .ok (.bipush 117, 2) := by decide +kernel
theorem dX7_init_7 : decode cX7_init 7 = .ok (.newarray .int, 2) := by decide +kernel
theorem dX7_init_9 : decode cX7_init 9 = .ok (.putfield 9, 3) := by decide +kernel
theorem dX7_init_12 : decode cX7_init 12 = .ok (.aload_n 0, 1) := by decide +kernel
theorem dX7_init_13 : decode cX7_init 13 = .ok (.bipush 117, 2) := by decide +kernel
theorem dX7_init_15 : decode cX7_init 15 = .ok (.newarray .int, 2) := by decide +kernel
theorem dX7_init_17 : decode cX7_init 17 = .ok (.putfield 13, 3) := by decide +kernel
theorem dX7_init_20 : decode cX7_init 20 = .ok (.aload_n 0, 1) := by decide +kernel
theorem dX7_init_21 : decode cX7_init 21 = .ok (.bipush 117, 2) := by decide +kernel
theorem dX7_init_23 : decode cX7_init 23 = .ok (.newarray .int, 2) := by decide +kernel
theorem dX7_init_25 : decode cX7_init 25 = .ok (.putfield 16, 3) := by decide +kernel
theorem dX7_init_28 : decode cX7_init 28 = .ok (.aload_n 0, 1) := by decide +kernel
theorem dX7_init_29 : decode cX7_init 29 = .ok (.bipush 8, 2) := by decide +kernel
theorem dX7_init_31 : decode cX7_init 31 = .ok (.newarray .int, 2) := by decide +kernel
theorem dX7_init_33 : decode cX7_init 33 = .ok (.putfield 19, 3) := by decide +kernel
theorem dX7_init_36 : decode cX7_init 36 = .ok (.aload_n 0, 1) := by decide +kernel
theorem dX7_init_37 : decode cX7_init 37 = .ok (.bipush 36, 2) := by decide +kernel
theorem dX7_init_39 : decode cX7_init 39 = .ok (.newarray .int, 2) := by decide +kernel
theorem dX7_init_41 : decode cX7_init 41 = .ok (.putfield 22, 3) := by decide +kernel
theorem dX7_init_44 : decode cX7_init 44 = .ok (.aload_n 0, 1) := by decide +kernel
theorem dX7_init_45 : decode cX7_init 45 = .ok (.bipush 36, 2) := by decide +kernel
theorem dX7_init_47 : decode cX7_init 47 = .ok (.newarray .int, 2) := by decide +kernel
theorem dX7_init_49 : decode cX7_init 49 = .ok (.putfield 25, 3) := by decide +kernel
theorem dX7_init_52 : decode cX7_init 52 = .ok (.aload_n 0, 1) := by decide +kernel
theorem dX7_init_53 : decode cX7_init 53 = .ok (.bipush 7, 2) := by decide +kernel
theorem dX7_init_55 : decode cX7_init 55 = .ok (.newarray .int, 2) := by decide +kernel
theorem dX7_init_57 : decode cX7_init 57 = .ok (.dup, 1) := by decide +kernel
theorem dX7_init_58 : decode cX7_init 58 = .ok (.iconst 0, 1) := by decide +kernel
theorem dX7_init_59 : decode cX7_init 59 = .ok (.bipush 20, 2) := by decide +kernel
theorem dX7_init_61 : decode cX7_init 61 = .ok (.iastore, 1) := by decide +kernel
theorem dX7_init_62 : decode cX7_init 62 = .ok (.dup, 1) := by decide +kernel
theorem dX7_init_63 : decode cX7_init 63 = .ok (.iconst 1, 1) := by decide +kernel
theorem dX7_init_64 : decode cX7_init 64 = .ok (.iconst 4, 1) := by decide +kernel
theorem dX7_init_65 : decode cX7_init 65 = .ok (.iastore, 1) := by decide +kernel
theorem dX7_init_66 : decode cX7_init 66 = .ok (.dup, 1) := by decide +kernel
theorem dX7_init_67 : decode cX7_init 67 = .ok (.iconst 2, 1) := by decide +kernel
theorem dX7_init_68 : decode cX7_init 68 = .ok (.bipush 30, 2) := by decide +kernel
theorem dX7_init_70 : decode cX7_init 70 = .ok (.iastore, 1) := by decide +kernel
theorem dX7_init_71 : decode cX7_init 71 = .ok (.dup, 1) := by decide +kernel
theorem dX7_init_72 : decode cX7_init 72 = .ok (.iconst 3, 1) := by decide +kernel
theorem dX7_init_73 : decode cX7_init 73 = .ok (.bipush 15, 2) := by decide +kernel
theorem dX7_init_75 : decode cX7_init 75 = .ok (.iastore, 1) := by decide +kernel
theorem dX7_init_76 : decode cX7_init 76 = .ok (.dup, 1) := by decide +kernel
theorem dX7_init_77 : decode cX7_init 77 = .ok (.iconst 4, 1) := by decide +kernel
theorem dX7_init_78 : decode cX7_init 78 = .ok (.bipush 16, 2) := by decide +kernel
theorem dX7_init_80 : decode cX7_init 80 = .ok (.iastore, 1) := by decide +kernel
theorem dX7_init_81 : decode cX7_init 81 = .ok (.dup, 1) := by decide +kernel
theorem dX7_init_82 : decode cX7_init 82 = .ok (.iconst 5, 1) := by decide +kernel
theorem dX7_init_83 : decode cX7_init 83 = .ok (.bipush 20, 2) := by decide +kernel
theorem dX7_init_85 : decode cX7_init 85 = .ok (.iastore, 1) := by decide +kernel
theorem dX7_init_86 : decode cX7_init 86 = .ok (.dup, 1) := by decide +kernel
theorem dX7_init_87 : decode cX7_init 87 = .ok (.bipush 6, 2) := by decide +kernel
theorem dX7_init_89 : decode cX7_init 89 = .ok (.bipush 8, 2) := by decide +kernel
theorem dX7_init_91 : decode cX7_init 91 = .ok (.iastore, 1) := by decide +kernel
theorem dX7_init_92 : decode cX7_init 92 = .ok (.putfield 28, 3) := by decide +kernel
theorem dX7_init_95 : decode cX7_init 95 = .ok (.aload_n 0, 1) := by decide +kernel
theorem dX7_init_96 : decode cX7_init 96 = .ok (.bipush 7, 2) := by decide +kernel
theorem dX7_init_98 : decode cX7_init 98 = .ok (.newarray .int, 2) := by decide +kernel
theorem dX7_init_100 : decode cX7_init 100 = .ok (.dup, 1) := by decide +kernel
theorem dX7_init_101 : decode cX7_init 101 = .ok (.iconst 0, 1) := by decide +kernel
theorem dX7_init_102 : decode cX7_init 102 = .ok (.bipush 12, 2) := by decide +kernel
theorem dX7_init_104 : decode cX7_init 104 = .ok (.iastore, 1) := by decide +kernel
theorem dX7_init_105 : decode cX7_init 105 = .ok (.dup, 1) := by decide +kernel
theorem dX7_init_106 : decode cX7_init 106 = .ok (.iconst 1, 1) := by decide +kernel
theorem dX7_init_107 : decode cX7_init 107 = .ok (.bipush 6, 2) := by decide +kernel
theorem dX7_init_109 : decode cX7_init 109 = .ok (.iastore, 1) := by decide +kernel
theorem dX7_init_110 : decode cX7_init 110 = .ok (.dup, 1) := by decide +kernel
theorem dX7_init_111 : decode cX7_init 111 = .ok (.iconst 2, 1) := by decide +kernel
theorem dX7_init_112 : decode cX7_init 112 = .ok (.bipush 32, 2) := by decide +kernel
theorem dX7_init_114 : decode cX7_init 114 = .ok (.iastore, 1) := by decide +kernel
theorem dX7_init_115 : decode cX7_init 115 = .ok (.dup, 1) := by decide +kernel
theorem dX7_init_116 : decode cX7_init 116 = .ok (.iconst 3, 1) := by decide +kernel
theorem dX7_init_117 : decode cX7_init 117 = .ok (.bipush 32, 2) := by decide +kernel
theorem dX7_init_119 : decode cX7_init 119 = .ok (.iastore, 1) := by decide +kernel
theorem dX7_init_120 : decode cX7_init 120 = .ok (.dup, 1) := by decide +kernel
theorem dX7_init_121 : decode cX7_init 121 = .ok (.iconst 4, 1) := by decide +kernel
theorem dX7_init_122 : decode cX7_init 122 = .ok (.bipush 16, 2) := by decide +kernel
theorem dX7_init_124 : decode cX7_init 124 = .ok (.iastore, 1) := by decide +kernel
theorem dX7_init_125 : decode cX7_init 125 = .ok (.dup, 1) := by decide +kernel
theorem dX7_init_126 : decode cX7_init 126 = .ok (.iconst 5, 1) := by decide +kernel
theorem dX7_init_127 : decode cX7_init 127 = .ok (.bipush 9, 2) := by decide +kernel
theorem dX7_init_129 : decode cX7_init 129 = .ok (.iastore, 1) := by decide +kernel
theorem dX7_init_130 : decode cX7_init 130 = .ok (.dup, 1) := by decide +kernel
theorem dX7_init_131 : decode cX7_init 131 = .ok (.bipush 6, 2) := by decide +kernel
theorem dX7_init_133 : decode cX7_init 133 = .ok (.bipush 6, 2) := by decide +kernel
theorem dX7_init_135 : decode cX7_init 135 = .ok (.iastore, 1) := by decide +kernel
theorem dX7_init_136 : decode cX7_init 136 = .ok (.putfield 31, 3) := by decide +kernel
theorem dX7_init_139 : decode cX7_init 139 = .ok (.aload_n 0, 1) := by decide +kernel
theorem dX7_init_140 : decode cX7_init 140 = .ok (.bipush 120, 2) := by decide +kernel
theorem dX7_init_142 : decode cX7_init 142 = .ok (.newarray .int, 2) := by decide +kernel
theorem dX7_init_144 : decode cX7_init 144 = .ok (.putfield 34, 3) := by decide +kernel
theorem dX7_init_147 : decode cX7_init 147 = .ok (.aload_n 0, 1) := by decide +kernel
theorem dX7_init_148 : decode cX7_init 148 = .ok (.bipush 7, 2) := by decide +kernel
theorem dX7_init_150 : decode cX7_init 150 = .ok (.anewarray 37, 3) := by decide +kernel
theorem dX7_init_153 : decode cX7_init 153 = .ok (.dup, 1) := by decide +kernel
theorem dX7_init_154 : decode cX7_init 154 = .ok (.iconst 0, 1) := by decide +kernel
theorem dX7_init_155 : decode cX7_init 155 = .ok (.ldc 39, 2) := by decide +kernel
theorem dX7_init_157 : decode cX7_init 157 = .ok (.aastore, 1) := by decide +kernel
theorem dX7_init_158 : decode cX7_init 158 = .ok (.dup, 1) := by decide +kernel
theorem dX7_init_159 : decode cX7_init 159 = .ok (.iconst 1, 1) := by decide +kernel
theorem dX7_init_160 : decode cX7_init 160 = .ok (.ldc 41, 2) := by decide +kernel
theorem dX7_init_162 : decode cX7_init 162 = .ok (.aastore, 1) := by decide +kernel
theorem dX7_init_163 : decode cX7_init 163 = .ok (.dup, 1) := by decide +kernel
theorem dX7_init_164 : decode cX7_init 164 = .ok (.iconst 2, 1) := by decide +kernel
theorem dX7_init_165 : decode cX7_init 165 = .ok (.ldc 43, 2) := by decide +kernel
theorem dX7_init_167 : decode cX7_init 167 = .ok (.aastore, 1) := by decide +kernel
theorem dX7_init_168 : decode cX7_init 168 = .ok (.dup, 1) := by decide +kernel
theorem dX7_init_169 : decode cX7_init 169 = .ok (.iconst 3, 1) := by decide +kernel
theorem dX7_init_170 : decode cX7_init 170 = .ok (.ldc 45, 2) := by decide +kernel
theorem dX7_init_172 : decode cX7_init 172 = .ok (.aastore, 1) := by decide +kernel
theorem dX7_init_173 : decode cX7_init 173 = .ok (.dup, 1) := by decide +kernel
theorem dX7_init_174 : decode cX7_init 174 = .ok (.iconst 4, 1) := by decide +kernel
theorem dX7_init_175 : decode cX7_init 175 = .ok (.ldc 47, 2) := by decide +kernel
theorem dX7_init_177 : decode cX7_init 177 = .ok (.aastore, 1) := by decide +kernel
theorem dX7_init_178 : decode cX7_init 178 = .ok (.dup, 1) := by decide +kernel
theorem dX7_init_179 : decode cX7_init 179 = .ok (.iconst 5, 1) := by decide +kernel
theorem dX7_init_180 : decode cX7_init 180 = .ok (.ldc 49, 2) := by decide +kernel
theorem dX7_init_182 : decode cX7_init 182 = .ok (.aastore, 1) := by decide +kernel
theorem dX7_init_183 : decode cX7_init 183 = .ok (.dup, 1) := by decide +kernel
theorem dX7_init_184 : decode cX7_init 184 = .ok (.bipush 6, 2) := by decide +kernel
theorem dX7_init_186 : decode cX7_init 186 = .ok (.ldc 51, 2) := by decide +kernel
theorem dX7_init_188 : decode cX7_init 188 = .ok (.aastore, 1) := by decide +kernel
theorem dX7_init_189 : decode cX7_init 189 = .ok (.putfield 53, 3) := by decide +kernel
theorem dX7_init_192 : decode cX7_init 192 = .ok (.aload_n 0, 1) := by decide +kernel
theorem dX7_init_193 : decode cX7_init 193 = .ok (.iconst 4, 1) := by decide +kernel
theorem dX7_init_194 : decode cX7_init 194 = .ok (.anewarray 37, 3) := by decide +kernel
theorem dX7_init_197 : decode cX7_init 197 = .ok (.dup, 1) := by decide +kernel
theorem dX7_init_198 : decode cX7_init 198 = .ok (.iconst 0, 1) := by decide +kernel
theorem dX7_init_199 : decode cX7_init 199 = .ok (.ldc 57, 2) := by decide +kernel
theorem dX7_init_201 : decode cX7_init 201 = .ok (.aastore, 1) := by decide +kernel
theorem dX7_init_202 : decode cX7_init 202 = .ok (.dup, 1) := by decide +kernel
theorem dX7_init_203 : decode cX7_init 203 = .ok (.iconst 1, 1) := by decide +kernel
theorem dX7_init_204 : decode cX7_init 204 = .ok (.ldc 59, 2) := by decide +kernel
theorem dX7_init_206 : decode cX7_init 206 = .ok (.aastore, 1) := by decide +kernel
theorem dX7_init_207 : decode cX7_init 207 = .ok (.dup, 1) := by decide +kernel
theorem dX7_init_208 : decode cX7_init 208 = .ok (.iconst 2, 1) := by decide +kernel
theorem dX7_init_209 : decode cX7_init 209 = .ok (.ldc 61, 2) := by decide +kernel
theorem dX7_init_211 : decode cX7_init 211 = .ok (.aastore, 1) := by decide +kernel
theorem dX7_init_212 : decode cX7_init 212 = .ok (.dup, 1) := by decide +kernel
theorem dX7_init_213 : decode cX7_init 213 = .ok (.iconst 3, 1) := by decide +kernel
theorem dX7_init_214 : decode cX7_init 214 = .ok (.ldc 63, 2) := by decide +kernel
theorem dX7_init_216 : decode cX7_init 216 = .ok (.aastore, 1) := by decide +kernel
theorem dX7_init_217 : decode cX7_init 217 = .ok (.putfield 65, 3) := by decide +kernel
theorem dX7_init_220 : decode cX7_init 220 = .ok (.aload_n 0, 1) := by decide +kernel
theorem dX7_init_221 : decode cX7_init 221 = .ok (.iconst 3, 1) := by decide +kernel
theorem dX7_init_222 : decode cX7_init 222 = .ok (.anewarray 37, 3) := by decide +kernel
theorem dX7_init_225 : decode cX7_init 225 = .ok (.dup, 1) := by decide +kernel
theorem dX7_init_226 : decode cX7_init 226 = .ok (.iconst 0, 1) := by decide +kernel
theorem dX7_init_227 : decode cX7_init 227 = .ok (.ldc 68, 2) := by decide +kernel
theorem dX7_init_229 : decode cX7_init 229 = .ok (.aastore, 1) := by decide +kernel
theorem dX7_init_230 : decode cX7_init 230 = .ok (.dup, 1) := by decide +kernel
theorem dX7_init_231 : decode cX7_init 231 = .ok (.iconst 1, 1) := by decide +kernel
theorem dX7_init_232 : decode cX7_init 232 = .ok (.ldc 70, 2) := by decide +kernel
theorem dX7_init_234 : decode cX7_init 234 = .ok (.aastore, 1) := by decide +kernel
theorem dX7_init_235 : decode cX7_init 235 = .ok (.dup, 1) := by decide +kernel
theorem dX7_init_236 : decode cX7_init 236 = .ok (.iconst 2, 1) := by decide +kernel
theorem dX7_init_237 : decode cX7_init 237 = .ok (.ldc 72, 2) := by decide +kernel
theorem dX7_init_239 : decode cX7_init 239 = .ok (.aastore, 1) := by decide +kernel
theorem dX7_init_240 : decode cX7_init 240 = .ok (.putfield 74, 3) := by decide +kernel
theorem dX7_init_243 : decode cX7_init 243 = .ok (.aload_n 0, 1) := by decide +kernel
theorem dX7_init_244 : decode cX7_init 244 = .ok (.sipush 480, 3) := by decide +kernel
theorem dX7_init_247 : decode cX7_init 247 = .ok (.newarray .int, 2) := by decide +kernel
theorem dX7_init_249 : decode cX7_init 249 = .ok (.putfield 77, 3) := by decide +kernel
theorem dX7_init_252 : decode cX7_init 252 = .ok (.aload_n 0, 1) := by decide +kernel
theorem dX7_init_253 : decode cX7_init 253 = .ok (.bipush 36, 2) := by decide +kernel
theorem dX7_init_255 : decode cX7_init 255 = .ok (.newarray .int, 2) := by decide +kernel
theorem dX7_init_257 : decode cX7_init 257 = .ok (.putfield 80, 3) := by decide +kernel
theorem dX7_init_260 : decode cX7_init 260 = .ok (.aload_n 0, 1) := by decide +kernel
theorem dX7_init_261 : decode cX7_init 261 = .ok (.iconst 4, 1) := by decide +kernel
theorem dX7_init_262 : decode cX7_init 262 = .ok (.newarray .int, 2) := by decide +kernel
theorem dX7_init_264 : decode cX7_init 264 = .ok (.putfield 83, 3) := by decide +kernel
theorem dX7_init_267 : decode cX7_init 267 = .ok (.aload_n 0, 1) := by decide +kernel
theorem dX7_init_268 : decode cX7_init 268 = .ok (.iconst 4, 1) := by decide +kernel
theorem dX7_init_269 : decode cX7_init 269 = .ok (.newarray .int, 2) := by decide +kernel
theorem dX7_init_271 : decode cX7_init 271 = .ok (.putfield 86, 3) := by decide +kernel
theorem dX7_init_274 : decode cX7_init 274 = .ok (.aload_n 0, 1) := by decide +kernel
theorem dX7_init_275 : decode cX7_init 275 = .ok (.sipush 160, 3) := by decide +kernel
theorem dX7_init_278 : decode cX7_init 278 = .ok (.newarray .int, 2) := by decide +kernel
theorem dX7_init_280 : decode cX7_init 280 = .ok (.putfield 89, 3) := by decide +kernel
theorem dX7_init_283 : decode cX7_init 283 = .ok (.aload_n 0, 1) := by decide +kernel
theorem dX7_init_284 : decode cX7_init 284 = .ok (.bipush 40, 2) := by decide +kernel
theorem dX7_init_286 : decode cX7_init 286 = .ok (.newarray .int, 2) := by decide +kernel
theorem dX7_init_288 : decode cX7_init 288 = .ok (.putfield 92, 3) := by decide +kernel
theorem dX7_init_291 : decode cX7_init 291 = .ok (.aload_n 0, 1) := by decide +kernel
theorem dX7_init_292 : decode cX7_init 292 = .ok (.getfield 9, 3) := by decide +kernel
theorem dX7_init_295 : decode cX7_init 295 = .ok (.iconst 2, 1) := by decide +kernel
theorem dX7_init_296 : decode cX7_init 296 = .ok (.iconst 1, 1) := by decide +kernel
theorem dX7_init_297 : decode cX7_init 297 = .ok (.iastore, 1) := by decide +kernel
theorem dX7_init_298 : decode cX7_init 298 = .ok (.iconst 0, 1) := by decide +kernel
theorem dX7_init_299 : decode cX7_init 299 = .ok (.istore_n 1, 1) := by decide +kernel
theorem dX7_init_300 : decode cX7_init 300 = .ok (.iload_n 1, 1) := by decide +kernel
theorem dX7_init_301 : decode cX7_init 301 = .ok (.bipush 10, 2) := by decide +kernel
theorem dX7_init_303 : decode cX7_init 303 = .ok (.if_icmp .ge 18, 3) := by decide +kernel
theorem dX7_init_306 : decode cX7_init 306 = .ok (.aload_n 0, 1) := by decide +kernel
theorem dX7_init_307 : decode cX7_init 307 = .ok (.getfield 9, 3) := by decide +kernel
theorem dX7_init_310 : decode cX7_init 310 = .ok (.iconst 3, 1) := by decide +kernel
theorem dX7_init_311 : decode cX7_init 311 = .ok (.iload_n 1, 1) := by decide +kernel
theorem dX7_init_312 : decode cX7_init 312 = .ok (.iadd, 1) := by decide +kernel
theorem dX7_init_313 : decode cX7_init 313 = .ok (.iconst (-1), 1) := by decide +kernel
theorem dX7_init_314 : decode cX7_init 314 = .ok (.iastore, 1) := by decide +kernel
theorem dX7_init_315 : decode cX7_init 315 = .ok (.iinc 1 1, 3) := by decide +kernel
theorem dX7_init_318 : decode cX7_init 318 = .ok (.goto (-18), 3) := by decide +kernel
theorem dX7_init_321 : decode cX7_init 321 = .ok (.return_, 1) := by decide +kernel
theorem dX7_finding_0 : decode cX7_finding 0 = .ok (.aload_n 0, 1) := by decide +kernel
theorem dX7_finding_1 : decode cX7_finding 1 = .ok (.getfield 19, 3) := by decide +kernel
theorem dX7_finding_4 : decode cX7_finding 4 = .ok (.ldc 95, 2) := by decide +kernel
theorem dX7_finding_6 : decode cX7_finding 6 = .ok (.iload_n 1, 1) := by decide +kernel
theorem dX7_finding_7 : decode cX7_finding 7 = .ok (.isub, 1) := by decide +kernel
theorem dX7_finding_8 : decode cX7_finding 8 = .ok (.iconst 1, 1) := by decide +kernel
theorem dX7_finding_9 : decode cX7_finding 9 = .ok (.iadd, 1) := by decide +kernel
theorem dX7_finding_10 : decode cX7_finding 10 = .ok (.dup2, 1) := by decide +kernel
theorem dX7_finding_11 : decode cX7_finding 11 = .ok (.iaload, 1) := by decide +kernel
theorem dX7_finding_12 : decode cX7_finding 12 = .ok (.iconst 1, 1) := by decide +kernel
theorem dX7_finding_13 : decode cX7_finding 13 = .ok (.iadd, 1) := by decide +kernel
theorem dX7_finding_14 : decode cX7_finding 14 = .ok (.iastore, 1) := by decide +kernel
theorem dX7_finding_15 : decode cX7_finding 15 = .ok (.aload_n 0, 1) := by decide +kernel
theorem dX7_finding_16 : decode cX7_finding 16 = .ok (.getfield 19, 3) := by decide +kernel
theorem dX7_finding_19 : decode cX7_finding 19 = .ok (.iconst 0, 1) := by decide +kernel
theorem dX7_finding_20 : decode cX7_finding 20 = .ok (.dup2, 1) := by decide +kernel
theorem dX7_finding_21 : decode cX7_finding 21 = .ok (.iaload, 1) := by decide +kernel
theorem dX7_finding_22 : decode cX7_finding 22 = .ok (.iconst 1, 1) := by decide +kernel
theorem dX7_finding_23 : decode cX7_finding 23 = .ok (.iadd, 1) := by decide +kernel
theorem dX7_finding_24 : decode cX7_finding 24 = .ok (.iastore, 1) := by decide +kernel
theorem dX7_finding_25 : decode cX7_finding 25 = .ok (.iload_n 1, 1) := by decide +kernel
theorem dX7_finding_26 : decode cX7_finding 26 = .ok (.ireturn, 1) := by decide +kernel
theorem dX7_within_0 : decode cX7_within 0 = .ok (.iload_n 0, 1) := by decide +kernel
theorem dX7_within_1 : decode cX7_within 1 = .ok (.iload_n 1, 1) := by decide +kernel
theorem dX7_within_2 : decode cX7_within 2 = .ok (.if_icmp .lt 12, 3) := by decide +kernel
theorem dX7_within_5 : decode cX7_within 5 = .ok (.iload_n 0, 1) := by decide +kernel
theorem dX7_within_6 : decode cX7_within 6 = .ok (.iload_n 2, 1) := by decide +kernel
theorem dX7_within_7 : decode cX7_within 7 = .ok (.if_icmp .gt 7, 3) := by decide +kernel
theorem dX7_within_10 : decode cX7_within 10 = .ok (.iconst 1, 1) := by decide +kernel
theorem dX7_within_11 : decode cX7_within 11 = .ok (.goto 4, 3) := by decide +kernel
theorem dX7_within_14 : decode cX7_within 14 = .ok (.iconst 0, 1) := by decide +kernel
theorem dX7_within_15 : decode cX7_within 15 = .ok (.ireturn, 1) := by decide +kernel
theorem dX7_become_0 : decode cX7_become 0 = .ok (.aload_n 0, 1) := by decide +kernel
theorem dX7_become_1 : decode cX7_become 1 = .ok (.getfield 9, 3) := by decide +kernel
theorem dX7_become_4 : decode cX7_become 4 = .ok (.iload_n 1, 1) := by decide +kernel
theorem dX7_become_5 : decode cX7_become 5 = .ok (.iaload, 1) := by decide +kernel
theorem dX7_become_6 : decode cX7_become 6 = .ok (.istore_n 3, 1) := by decide +kernel
theorem dX7_become_7 : decode cX7_become 7 = .ok (.aload_n 0, 1) := by decide +kernel
theorem dX7_become_8 : decode cX7_become 8 = .ok (.getfield 9, 3) := by decide +kernel
theorem dX7_become_11 : decode cX7_become 11 = .ok (.iload_n 1, 1) := by decide +kernel
theorem dX7_become_12 : decode cX7_become 12 = .ok (.iload_n 2, 1) := by decide +kernel
theorem dX7_become_13 : decode cX7_become 13 = .ok (.iastore, 1) := by decide +kernel
theorem dX7_become_14 : decode cX7_become 14 = .ok (.iload_n 3, 1) := by decide +kernel
theorem dX7_become_15 : decode cX7_become 15 = .ok (.ireturn, 1) := by decide +kernel
theorem dX7_copyRow_0 : decode cX7_copyRow 0 = .ok (.iconst 0, 1) := by decide +kernel
theorem dX7_copyRow_1 : decode cX7_copyRow 1 = .ok (.istore_n 2, 1) := by decide +kernel
theorem dX7_copyRow_2 : decode cX7_copyRow 2 = .ok (.iload_n 2, 1) := by decide +kernel
theorem dX7_copyRow_3 : decode cX7_copyRow 3 = .ok (.bipush 117, 2) := by decide +kernel
theorem dX7_copyRow_5 : decode cX7_copyRow 5 = .ok (.if_icmp .ge 15, 3) := by decide +kernel
theorem dX7_copyRow_8 : decode cX7_copyRow 8 = .ok (.aload_n 1, 1) := by decide +kernel
theorem dX7_copyRow_9 : decode cX7_copyRow 9 = .ok (.iload_n 2, 1) := by decide +kernel
theorem dX7_copyRow_10 : decode cX7_copyRow 10 = .ok (.aload_n 0, 1) := by decide +kernel
theorem dX7_copyRow_11 : decode cX7_copyRow 11 = .ok (.iload_n 2, 1) := by decide +kernel
theorem dX7_copyRow_12 : decode cX7_copyRow 12 = .ok (.iaload, 1) := by decide +kernel
theorem dX7_copyRow_13 : decode cX7_copyRow 13 = .ok (.iastore, 1) := by decide +kernel
theorem dX7_copyRow_14 : decode cX7_copyRow 14 = .ok (.iinc 2 1, 3) := by decide +kernel
theorem dX7_copyRow_17 : decode cX7_copyRow 17 = .ok (.goto (-15), 3) := by decide +kernel
theorem dX7_copyRow_20 : decode cX7_copyRow 20 = .ok (.return_, 1) := by decide +kernel
set_option maxRecDepth 20000 in
theorem ggX7_putBack_X7_copyRow : GoodIn wsX7_putBack wsX7_copyRow := goodIn_r _ [6] (by decide +kernel) (by decide +kernel)
set_option maxRecDepth 20000 in
theorem gX7_putBack_X7_copyRow : GoodIn wsX7_putBack (va_wsS RX7 96 yX7_copyRow wsX7_copyRow) := goodIn_app (goodIn_of _ (by decide +kernel)) ggX7_putBack_X7_copyRow
theorem dX7_putBack_0 : decode cX7_putBack 0 = .ok (.aload_n 0, 1) := by decide +kernel
theorem dX7_putBack_1 : decode cX7_putBack 1 = .ok (.getfield 16, 3) := by decide +kernel
theorem dX7_putBack_4 : decode cX7_putBack 4 = .ok (.aload_n 0, 1) := by decide +kernel
theorem dX7_putBack_5 : decode cX7_putBack 5 = .ok (.getfield 9, 3) := by decide +kernel
theorem dX7_putBack_8 : decode cX7_putBack 8 = .ok (.invokestatic 96, 3) := by decide +kernel
theorem dX7_putBack_11 : decode cX7_putBack 11 = .ok (.iload_n 1, 1) := by decide +kernel
theorem dX7_putBack_12 : decode cX7_putBack 12 = .ok (.ireturn, 1) := by decide +kernel
set_option maxRecDepth 20000 in
theorem ggX7_orNone_X7_finding : GoodIn wsX7_orNone wsX7_finding := goodIn_r _ [6, 7, 8, 9, 10, 11, 12, 13, 14, 15, 16, 17, 18, 19, 20, 21, 22, 23, 24, 25, 26, 27, 28, 29, 30, 31, 32, 33, 34, 35] (by decide +kernel) (by decide +kernel)
set_option maxRecDepth 20000 in
theorem gX7_orNone_X7_finding : GoodIn wsX7_orNone (wsV RX7 101 RX7 yX7_finding wsX7_finding) := goodIn_app (goodIn_of _ (by decide +kernel)) ggX7_orNone_X7_finding
theorem dX7_orNone_0 : decode cX7_orNone 0 = .ok (.iload_n 1, 1) := by decide +kernel
theorem dX7_orNone_1 : decode cX7_orNone 1 = .ok (.ifCond .ge 12, 3) := by decide +kernel
theorem dX7_orNone_4 : decode cX7_orNone 4 = .ok (.aload_n 0, 1) := by decide +kernel
theorem dX7_orNone_5 : decode cX7_orNone 5 = .ok (.ldc 100, 2) := by decide +kernel
theorem dX7_orNone_7 : decode cX7_orNone 7 = .ok (.invokevirtual 101, 3) := by decide +kernel
theorem dX7_orNone_10 : decode cX7_orNone 10 = .ok (.goto 4, 3) := by decide +kernel
theorem dX7_orNone_13 : decode cX7_orNone 13 = .ok (.iload_n 1, 1) := by decide +kernel
theorem dX7_orNone_14 : decode cX7_orNone 14 = .ok (.ireturn, 1) := by decide +kernel
theorem dX7_bits_0 : decode cX7_bits 0 = .ok (.iconst 0, 1) := by decide +kernel
theorem dX7_bits_1 : decode cX7_bits 1 = .ok (.istore_n 1, 1) := by decide +kernel
theorem dX7_bits_2 : decode cX7_bits 2 = .ok (.iload_n 0, 1) := by decide +kernel
theorem dX7_bits_3 : decode cX7_bits 3 = .ok (.istore_n 2, 1) := by decide +kernel
theorem dX7_bits_4 : decode cX7_bits 4 = .ok (.iload_n 2, 1) := by decide +kernel
theorem dX7_bits_5 : decode cX7_bits 5 = .ok (.ifCond .eq 15, 3) := by decide +kernel
theorem dX7_bits_8 : decode cX7_bits 8 = .ok (.iinc 1 1, 3) := by decide +kernel
theorem dX7_bits_11 : decode cX7_bits 11 = .ok (.iload_n 2, 1) := by decide +kernel
theorem dX7_bits_12 : decode cX7_bits 12 = .ok (.iload_n 2, 1) := by decide +kernel
theorem dX7_bits_13 : decode cX7_bits 13 = .ok (.iconst 1, 1) := by decide +kernel
theorem dX7_bits_14 : decode cX7_bits 14 = .ok (.isub, 1) := by decide +kernel
theorem dX7_bits_15 : decode cX7_bits 15 = .ok (.iand, 1) := by decide +kernel
theorem dX7_bits_16 : decode cX7_bits 16 = .ok (.istore_n 2, 1) := by decide +kernel
theorem dX7_bits_17 : decode cX7_bits 17 = .ok (.goto (-13), 3) := by decide +kernel
theorem dX7_bits_20 : decode cX7_bits 20 = .ok (.iload_n 1, 1) := by decide +kernel
theorem dX7_bits_21 : decode cX7_bits 21 = .ok (.ireturn, 1) := by decide +kernel
set_option maxRecDepth 20000 in
theorem ggX7_isCell_X7_within : GoodIn wsX7_isCell wsX7_within := goodIn_r _ [4] (by decide +kernel) (by decide +kernel)
set_option maxRecDepth 20000 in
theorem gX7_isCell_X7_within : GoodIn wsX7_isCell (va_wsS RX7 105 yX7_within wsX7_within) := goodIn_app (goodIn_of _ (by decide +kernel)) ggX7_isCell_X7_within
theorem dX7_isCell_0 : decode cX7_isCell 0 = .ok (.iload_n 0, 1) := by decide +kernel
theorem dX7_isCell_1 : decode cX7_isCell 1 = .ok (.iconst 0, 1) := by decide +kernel
theorem dX7_isCell_2 : decode cX7_isCell 2 = .ok (.bipush 35, 2) := by decide +kernel
theorem dX7_isCell_4 : decode cX7_isCell 4 = .ok (.invokestatic 105, 3) := by decide +kernel
theorem dX7_isCell_7 : decode cX7_isCell 7 = .ok (.ireturn, 1) := by decide +kernel
set_option maxRecDepth 20000 in
theorem ggX7_isSeed_X7_within : GoodIn wsX7_isSeed wsX7_within := goodIn_r _ [5] (by decide +kernel) (by decide +kernel)
set_option maxRecDepth 20000 in
theorem gX7_isSeed_X7_within : GoodIn wsX7_isSeed (va_wsS RX7 105 yX7_within wsX7_within) := goodIn_app (goodIn_of _ (by decide +kernel)) ggX7_isSeed_X7_within
theorem dX7_isSeed_0 : decode cX7_isSeed 0 = .ok (.iload_n 1, 1) := by decide +kernel
theorem dX7_isSeed_1 : decode cX7_isSeed 1 = .ok (.iconst 0, 1) := by decide +kernel
theorem dX7_isSeed_2 : decode cX7_isSeed 2 = .ok (.aload_n 0, 1) := by decide +kernel
theorem dX7_isSeed_3 : decode cX7_isSeed 3 = .ok (.getfield 9, 3) := by decide +kernel
theorem dX7_isSeed_6 : decode cX7_isSeed 6 = .ok (.iconst 1, 1) := by decide +kernel
theorem dX7_isSeed_7 : decode cX7_isSeed 7 = .ok (.iaload, 1) := by decide +kernel
theorem dX7_isSeed_8 : decode cX7_isSeed 8 = .ok (.iconst 1, 1) := by decide +kernel
theorem dX7_isSeed_9 : decode cX7_isSeed 9 = .ok (.isub, 1) := by decide +kernel
theorem dX7_isSeed_10 : decode cX7_isSeed 10 = .ok (.invokestatic 105, 3) := by decide +kernel
theorem dX7_isSeed_13 : decode cX7_isSeed 13 = .ok (.ireturn, 1) := by decide +kernel
set_option maxRecDepth 20000 in
theorem ggX7_isKind_X7_within : GoodIn wsX7_isKind wsX7_within := goodIn_r _ [4] (by decide +kernel) (by decide +kernel)
set_option maxRecDepth 20000 in
theorem gX7_isKind_X7_within : GoodIn wsX7_isKind (va_wsS RX7 105 yX7_within wsX7_within) := goodIn_app (goodIn_of _ (by decide +kernel)) ggX7_isKind_X7_within
theorem dX7_isKind_0 : decode cX7_isKind 0 = .ok (.iload_n 0, 1) := by decide +kernel
theorem dX7_isKind_1 : decode cX7_isKind 1 = .ok (.iconst 0, 1) := by decide +kernel
theorem dX7_isKind_2 : decode cX7_isKind 2 = .ok (.bipush 6, 2) := by decide +kernel
theorem dX7_isKind_4 : decode cX7_isKind 4 = .ok (.invokestatic 105, 3) := by decide +kernel
theorem dX7_isKind_7 : decode cX7_isKind 7 = .ok (.ireturn, 1) := by decide +kernel
set_option maxRecDepth 20000 in
theorem ggX7_isHeading_X7_within : GoodIn wsX7_isHeading wsX7_within := goodIn_r _ [4] (by decide +kernel) (by decide +kernel)
set_option maxRecDepth 20000 in
theorem gX7_isHeading_X7_within : GoodIn wsX7_isHeading (va_wsS RX7 105 yX7_within wsX7_within) := goodIn_app (goodIn_of _ (by decide +kernel)) ggX7_isHeading_X7_within
theorem dX7_isHeading_0 : decode cX7_isHeading 0 = .ok (.iload_n 0, 1) := by decide +kernel
theorem dX7_isHeading_1 : decode cX7_isHeading 1 = .ok (.iconst 0, 1) := by decide +kernel
theorem dX7_isHeading_2 : decode cX7_isHeading 2 = .ok (.iconst 3, 1) := by decide +kernel
theorem dX7_isHeading_3 : decode cX7_isHeading 3 = .ok (.invokestatic 105, 3) := by decide +kernel
theorem dX7_isHeading_6 : decode cX7_isHeading 6 = .ok (.ireturn, 1) := by decide +kernel
set_option maxRecDepth 20000 in
theorem ggX7_isPath_X7_within : GoodIn wsX7_isPath wsX7_within := goodIn_r _ [4] (by decide +kernel) (by decide +kernel)
set_option maxRecDepth 20000 in
theorem gX7_isPath_X7_within : GoodIn wsX7_isPath (va_wsS RX7 105 yX7_within wsX7_within) := goodIn_app (goodIn_of _ (by decide +kernel)) ggX7_isPath_X7_within
theorem dX7_isPath_0 : decode cX7_isPath 0 = .ok (.iload_n 0, 1) := by decide +kernel
theorem dX7_isPath_1 : decode cX7_isPath 1 = .ok (.iconst 0, 1) := by decide +kernel
theorem dX7_isPath_2 : decode cX7_isPath 2 = .ok (.bipush 99, 2) := by decide +kernel
theorem dX7_isPath_4 : decode cX7_isPath 4 = .ok (.invokestatic 105, 3) := by decide +kernel
theorem dX7_isPath_7 : decode cX7_isPath 7 = .ok (.ireturn, 1) := by decide +kernel
theorem dX7_at_0 : decode cX7_at 0 = .ok (.bipush 85, 2) := by decide +kernel
theorem dX7_at_2 : decode cX7_at 2 = .ok (.iconst 4, 1) := by decide +kernel
theorem dX7_at_3 : decode cX7_at 3 = .ok (.iload_n 0, 1) := by decide +kernel
theorem dX7_at_4 : decode cX7_at 4 = .ok (.imul, 1) := by decide +kernel
theorem dX7_at_5 : decode cX7_at 5 = .ok (.iadd, 1) := by decide +kernel
theorem dX7_at_6 : decode cX7_at 6 = .ok (.iload_n 1, 1) := by decide +kernel
theorem dX7_at_7 : decode cX7_at 7 = .ok (.iadd, 1) := by decide +kernel
theorem dX7_at_8 : decode cX7_at 8 = .ok (.ireturn, 1) := by decide +kernel
set_option maxRecDepth 20000 in
theorem ggX7_seedIs_X7_at : GoodIn wsX7_seedIs wsX7_at := goodIn_r _ [5] (by decide +kernel) (by decide +kernel)
set_option maxRecDepth 20000 in
theorem gX7_seedIs_X7_at : GoodIn wsX7_seedIs (va_wsS RX7 109 yX7_at wsX7_at) := goodIn_app (goodIn_of _ (by decide +kernel)) ggX7_seedIs_X7_at
theorem dX7_seedIs_0 : decode cX7_seedIs 0 = .ok (.aload_n 0, 1) := by decide +kernel
theorem dX7_seedIs_1 : decode cX7_seedIs 1 = .ok (.getfield 9, 3) := by decide +kernel
theorem dX7_seedIs_4 : decode cX7_seedIs 4 = .ok (.iload_n 1, 1) := by decide +kernel
theorem dX7_seedIs_5 : decode cX7_seedIs 5 = .ok (.iload_n 2, 1) := by decide +kernel
theorem dX7_seedIs_6 : decode cX7_seedIs 6 = .ok (.invokestatic 109, 3) := by decide +kernel
theorem dX7_seedIs_9 : decode cX7_seedIs 9 = .ok (.iaload, 1) := by decide +kernel
theorem dX7_seedIs_10 : decode cX7_seedIs 10 = .ok (.ireturn, 1) := by decide +kernel
theorem dX7_isGrass_0 : decode cX7_isGrass 0 = .ok (.aload_n 0, 1) := by decide +kernel
theorem dX7_isGrass_1 : decode cX7_isGrass 1 = .ok (.getfield 9, 3) := by decide +kernel
theorem dX7_isGrass_4 : decode cX7_isGrass 4 = .ok (.bipush 13, 2) := by decide +kernel
theorem dX7_isGrass_6 : decode cX7_isGrass 6 = .ok (.iload_n 1, 1) := by decide +kernel
theorem dX7_isGrass_7 : decode cX7_isGrass 7 = .ok (.iadd, 1) := by decide +kernel
theorem dX7_isGrass_8 : decode cX7_isGrass 8 = .ok (.iaload, 1) := by decide +kernel
theorem dX7_isGrass_9 : decode cX7_isGrass 9 = .ok (.ifCond .ne 7, 3) := by decide +kernel
theorem dX7_isGrass_12 : decode cX7_isGrass 12 = .ok (.iconst 1, 1) := by decide +kernel
theorem dX7_isGrass_13 : decode cX7_isGrass 13 = .ok (.goto 4, 3) := by decide +kernel
theorem dX7_isGrass_16 : decode cX7_isGrass 16 = .ok (.iconst 0, 1) := by decide +kernel
theorem dX7_isGrass_17 : decode cX7_isGrass 17 = .ok (.ireturn, 1) := by decide +kernel
theorem dX7_hasPath_0 : decode cX7_hasPath 0 = .ok (.aload_n 0, 1) := by decide +kernel
theorem dX7_hasPath_1 : decode cX7_hasPath 1 = .ok (.getfield 9, 3) := by decide +kernel
theorem dX7_hasPath_4 : decode cX7_hasPath 4 = .ok (.bipush 49, 2) := by decide +kernel
theorem dX7_hasPath_6 : decode cX7_hasPath 6 = .ok (.iload_n 1, 1) := by decide +kernel
theorem dX7_hasPath_7 : decode cX7_hasPath 7 = .ok (.iadd, 1) := by decide +kernel
theorem dX7_hasPath_8 : decode cX7_hasPath 8 = .ok (.iaload, 1) := by decide +kernel
theorem dX7_hasPath_9 : decode cX7_hasPath 9 = .ok (.ifCond .le 7, 3) := by decide +kernel
theorem dX7_hasPath_12 : decode cX7_hasPath 12 = .ok (.iconst 1, 1) := by decide +kernel
theorem dX7_hasPath_13 : decode cX7_hasPath 13 = .ok (.goto 4, 3) := by decide +kernel
theorem dX7_hasPath_16 : decode cX7_hasPath 16 = .ok (.iconst 0, 1) := by decide +kernel
theorem dX7_hasPath_17 : decode cX7_hasPath 17 = .ok (.ireturn, 1) := by decide +kernel
theorem dX7_beside_0 : decode cX7_beside 0 = .ok (.iload_n 1, 1) := by decide +kernel
theorem dX7_beside_1 : decode cX7_beside 1 = .ok (.tableswitch 76 0 2 #[27, 42, 58], 27) := by decide +kernel
theorem dX7_beside_28 : decode cX7_beside 28 = .ok (.iload_n 0, 1) := by decide +kernel
theorem dX7_beside_29 : decode cX7_beside 29 = .ok (.bipush 6, 2) := by decide +kernel
theorem dX7_beside_31 : decode cX7_beside 31 = .ok (.if_icmp .ge 7, 3) := by decide +kernel
theorem dX7_beside_34 : decode cX7_beside 34 = .ok (.iconst (-1), 1) := by decide +kernel
theorem dX7_beside_35 : decode cX7_beside 35 = .ok (.goto 7, 3) := by decide +kernel
theorem dX7_beside_38 : decode cX7_beside 38 = .ok (.iload_n 0, 1) := by decide +kernel
theorem dX7_beside_39 : decode cX7_beside 39 = .ok (.bipush 6, 2) := by decide +kernel
theorem dX7_beside_41 : decode cX7_beside 41 = .ok (.isub, 1) := by decide +kernel
theorem dX7_beside_42 : decode cX7_beside 42 = .ok (.ireturn, 1) := by decide +kernel
theorem dX7_beside_43 : decode cX7_beside 43 = .ok (.iload_n 0, 1) := by decide +kernel
theorem dX7_beside_44 : decode cX7_beside 44 = .ok (.bipush 6, 2) := by decide +kernel
theorem dX7_beside_46 : decode cX7_beside 46 = .ok (.irem, 1) := by decide +kernel
theorem dX7_beside_47 : decode cX7_beside 47 = .ok (.iconst 5, 1) := by decide +kernel
theorem dX7_beside_48 : decode cX7_beside 48 = .ok (.if_icmp .ne 7, 3) := by decide +kernel
theorem dX7_beside_51 : decode cX7_beside 51 = .ok (.iconst (-1), 1) := by decide +kernel
theorem dX7_beside_52 : decode cX7_beside 52 = .ok (.goto 6, 3) := by decide +kernel
theorem dX7_beside_55 : decode cX7_beside 55 = .ok (.iload_n 0, 1) := by decide +kernel
theorem dX7_beside_56 : decode cX7_beside 56 = .ok (.iconst 1, 1) := by decide +kernel
theorem dX7_beside_57 : decode cX7_beside 57 = .ok (.iadd, 1) := by decide +kernel
theorem dX7_beside_58 : decode cX7_beside 58 = .ok (.ireturn, 1) := by decide +kernel
theorem dX7_beside_59 : decode cX7_beside 59 = .ok (.iload_n 0, 1) := by decide +kernel
theorem dX7_beside_60 : decode cX7_beside 60 = .ok (.bipush 6, 2) := by decide +kernel
theorem dX7_beside_62 : decode cX7_beside 62 = .ok (.iadd, 1) := by decide +kernel
theorem dX7_beside_63 : decode cX7_beside 63 = .ok (.bipush 36, 2) := by decide +kernel
theorem dX7_beside_65 : decode cX7_beside 65 = .ok (.if_icmp .ge 10, 3) := by decide +kernel
theorem dX7_beside_68 : decode cX7_beside 68 = .ok (.iload_n 0, 1) := by decide +kernel
theorem dX7_beside_69 : decode cX7_beside 69 = .ok (.bipush 6, 2) := by decide +kernel
theorem dX7_beside_71 : decode cX7_beside 71 = .ok (.iadd, 1) := by decide +kernel
theorem dX7_beside_72 : decode cX7_beside 72 = .ok (.goto 4, 3) := by decide +kernel
theorem dX7_beside_75 : decode cX7_beside 75 = .ok (.iconst (-1), 1) := by decide +kernel
theorem dX7_beside_76 : decode cX7_beside 76 = .ok (.ireturn, 1) := by decide +kernel
theorem dX7_beside_77 : decode cX7_beside 77 = .ok (.iload_n 0, 1) := by decide +kernel
theorem dX7_beside_78 : decode cX7_beside 78 = .ok (.bipush 6, 2) := by decide +kernel
theorem dX7_beside_80 : decode cX7_beside 80 = .ok (.irem, 1) := by decide +kernel
theorem dX7_beside_81 : decode cX7_beside 81 = .ok (.ifCond .ne 7, 3) := by decide +kernel
theorem dX7_beside_84 : decode cX7_beside 84 = .ok (.iconst (-1), 1) := by decide +kernel
theorem dX7_beside_85 : decode cX7_beside 85 = .ok (.goto 6, 3) := by decide +kernel
theorem dX7_beside_88 : decode cX7_beside 88 = .ok (.iload_n 0, 1) := by decide +kernel
theorem dX7_beside_89 : decode cX7_beside 89 = .ok (.iconst 1, 1) := by decide +kernel
theorem dX7_beside_90 : decode cX7_beside 90 = .ok (.isub, 1) := by decide +kernel
theorem dX7_beside_91 : decode cX7_beside 91 = .ok (.ireturn, 1) := by decide +kernel
set_option maxRecDepth 20000 in
theorem ggX7_lay_X7_become : GoodIn wsX7_lay wsX7_become := goodIn_r _ [6, 1, 7, 8, 9, 10, 11, 12, 13, 14, 15, 16, 17, 18, 19, 20, 21, 22, 23, 24, 25, 26, 27, 28, 29, 30, 31, 32, 33] (by decide +kernel) (by decide +kernel)
set_option maxRecDepth 20000 in
theorem gX7_lay_X7_become : GoodIn wsX7_lay (wsV RX7 113 RX7 yX7_become wsX7_become) := goodIn_app (goodIn_of _ (by decide +kernel)) ggX7_lay_X7_become
theorem dX7_lay_0 : decode cX7_lay 0 = .ok (.aload_n 0, 1) := by decide +kernel
theorem dX7_lay_1 : decode cX7_lay 1 = .ok (.getfield 9, 3) := by decide +kernel
theorem dX7_lay_4 : decode cX7_lay 4 = .ok (.bipush 49, 2) := by decide +kernel
theorem dX7_lay_6 : decode cX7_lay 6 = .ok (.iload_n 1, 1) := by decide +kernel
theorem dX7_lay_7 : decode cX7_lay 7 = .ok (.iadd, 1) := by decide +kernel
theorem dX7_lay_8 : decode cX7_lay 8 = .ok (.iload_n 2, 1) := by decide +kernel
theorem dX7_lay_9 : decode cX7_lay 9 = .ok (.ifCond .ne 15, 3) := by decide +kernel
theorem dX7_lay_12 : decode cX7_lay 12 = .ok (.aload_n 0, 1) := by decide +kernel
theorem dX7_lay_13 : decode cX7_lay 13 = .ok (.getfield 9, 3) := by decide +kernel
theorem dX7_lay_16 : decode cX7_lay 16 = .ok (.bipush 49, 2) := by decide +kernel
theorem dX7_lay_18 : decode cX7_lay 18 = .ok (.iload_n 1, 1) := by decide +kernel
theorem dX7_lay_19 : decode cX7_lay 19 = .ok (.iadd, 1) := by decide +kernel
theorem dX7_lay_20 : decode cX7_lay 20 = .ok (.iaload, 1) := by decide +kernel
theorem dX7_lay_21 : decode cX7_lay 21 = .ok (.goto 4, 3) := by decide +kernel
theorem dX7_lay_24 : decode cX7_lay 24 = .ok (.iconst 0, 1) := by decide +kernel
theorem dX7_lay_25 : decode cX7_lay 25 = .ok (.iastore, 1) := by decide +kernel
theorem dX7_lay_26 : decode cX7_lay 26 = .ok (.aload_n 0, 1) := by decide +kernel
theorem dX7_lay_27 : decode cX7_lay 27 = .ok (.bipush 13, 2) := by decide +kernel
theorem dX7_lay_29 : decode cX7_lay 29 = .ok (.iload_n 1, 1) := by decide +kernel
theorem dX7_lay_30 : decode cX7_lay 30 = .ok (.iadd, 1) := by decide +kernel
theorem dX7_lay_31 : decode cX7_lay 31 = .ok (.iload_n 2, 1) := by decide +kernel
theorem dX7_lay_32 : decode cX7_lay 32 = .ok (.invokevirtual 113, 3) := by decide +kernel
theorem dX7_lay_35 : decode cX7_lay 35 = .ok (.ireturn, 1) := by decide +kernel
set_option maxRecDepth 20000 in
theorem ggX7_ground_X7_isCell : GoodIn wsX7_ground wsX7_isCell := goodIn_r _ [5, 6, 7, 4, 8] (by decide +kernel) (by decide +kernel)
set_option maxRecDepth 20000 in
theorem gX7_ground_X7_isCell : GoodIn wsX7_ground (va_wsS RX7 116 yX7_isCell wsX7_isCell) := goodIn_app (goodIn_of _ (by decide +kernel)) ggX7_ground_X7_isCell
set_option maxRecDepth 20000 in
theorem ggX7_ground_X7_within : GoodIn wsX7_ground wsX7_within := goodIn_r _ [8] (by decide +kernel) (by decide +kernel)
set_option maxRecDepth 20000 in
theorem gX7_ground_X7_within : GoodIn wsX7_ground (va_wsS RX7 105 yX7_within wsX7_within) := goodIn_app (goodIn_of _ (by decide +kernel)) ggX7_ground_X7_within
set_option maxRecDepth 20000 in
theorem ggX7_ground_X7_lay : GoodIn wsX7_ground wsX7_lay := goodIn_r _ [12, 13, 14, 15, 16, 4, 17, 23, 24, 25, 26, 27, 28, 29, 30, 31, 32, 33, 34, 35, 36, 37, 38, 39, 40, 41, 42, 43, 44, 45, 46, 47, 48, 49] (by decide +kernel) (by decide +kernel)
set_option maxRecDepth 20000 in
theorem gX7_ground_X7_lay : GoodIn wsX7_ground (wsV RX7 120 RX7 yX7_lay wsX7_lay) := goodIn_app (goodIn_of _ (by decide +kernel)) ggX7_ground_X7_lay
set_option maxRecDepth 20000 in
theorem ggX7_ground_X7_finding : GoodIn wsX7_ground wsX7_finding := goodIn_r _ [21, 22, 1, 23, 24, 25, 26, 27, 28, 29, 30, 31, 32, 33, 34, 35, 36, 37, 38, 39, 40, 41, 42, 43, 44, 45, 46, 47, 48, 49] (by decide +kernel) (by decide +kernel)
set_option maxRecDepth 20000 in
theorem gX7_ground_X7_finding : GoodIn wsX7_ground (wsV RX7 101 RX7 yX7_finding wsX7_finding) := goodIn_app (goodIn_of _ (by decide +kernel)) ggX7_ground_X7_finding
theorem dX7_ground_0 : decode cX7_ground 0 = .ok (.iload_n 1, 1) := by decide +kernel
theorem dX7_ground_1 : decode cX7_ground 1 = .ok (.invokestatic 116, 3) := by decide +kernel
theorem dX7_ground_4 : decode cX7_ground 4 = .ok (.ifCond .eq 21, 3) := by decide +kernel
theorem dX7_ground_7 : decode cX7_ground 7 = .ok (.iload_n 2, 1) := by decide +kernel
theorem dX7_ground_8 : decode cX7_ground 8 = .ok (.iconst 0, 1) := by decide +kernel
theorem dX7_ground_9 : decode cX7_ground 9 = .ok (.iconst 2, 1) := by decide +kernel
theorem dX7_ground_10 : decode cX7_ground 10 = .ok (.invokestatic 105, 3) := by decide +kernel
theorem dX7_ground_13 : decode cX7_ground 13 = .ok (.ifCond .eq 12, 3) := by decide +kernel
theorem dX7_ground_16 : decode cX7_ground 16 = .ok (.aload_n 0, 1) := by decide +kernel
theorem dX7_ground_17 : decode cX7_ground 17 = .ok (.iload_n 1, 1) := by decide +kernel
theorem dX7_ground_18 : decode cX7_ground 18 = .ok (.iload_n 2, 1) := by decide +kernel
theorem dX7_ground_19 : decode cX7_ground 19 = .ok (.invokevirtual 120, 3) := by decide +kernel
theorem dX7_ground_22 : decode cX7_ground 22 = .ok (.goto 9, 3) := by decide +kernel
theorem dX7_ground_25 : decode cX7_ground 25 = .ok (.aload_n 0, 1) := by decide +kernel
theorem dX7_ground_26 : decode cX7_ground 26 = .ok (.ldc 95, 2) := by decide +kernel
theorem dX7_ground_28 : decode cX7_ground 28 = .ok (.invokevirtual 101, 3) := by decide +kernel
theorem dX7_ground_31 : decode cX7_ground 31 = .ok (.ireturn, 1) := by decide +kernel
set_option maxRecDepth 20000 in
theorem ggX7_pathsBeside_X7_beside : GoodIn wsX7_pathsBeside wsX7_beside := goodIn_r _ [4] (by decide +kernel) (by decide +kernel)
set_option maxRecDepth 20000 in
theorem gX7_pathsBeside_X7_beside : GoodIn wsX7_pathsBeside (va_wsS RX7 123 yX7_beside wsX7_beside) := goodIn_app (goodIn_of _ (by decide +kernel)) ggX7_pathsBeside_X7_beside
set_option maxRecDepth 20000 in
theorem ggX7_pathsBeside_X7_hasPath : GoodIn wsX7_pathsBeside wsX7_hasPath := goodIn_r _ [8, 9, 10, 11, 12, 13, 14, 15, 16, 17, 18, 19, 20, 21, 22, 23, 24, 25, 26, 27, 28, 29, 30, 31, 32, 33, 34, 35, 36] (by decide +kernel) (by decide +kernel)
set_option maxRecDepth 20000 in
theorem gX7_pathsBeside_X7_hasPath : GoodIn wsX7_pathsBeside (wsV RX7 126 RX7 yX7_hasPath wsX7_hasPath) := goodIn_app (goodIn_of _ (by decide +kernel)) ggX7_pathsBeside_X7_hasPath
theorem dX7_pathsBeside_0 : decode cX7_pathsBeside 0 = .ok (.iconst 0, 1) := by decide +kernel
theorem dX7_pathsBeside_1 : decode cX7_pathsBeside 1 = .ok (.istore_n 2, 1) := by decide +kernel
theorem dX7_pathsBeside_2 : decode cX7_pathsBeside 2 = .ok (.iconst 0, 1) := by decide +kernel
theorem dX7_pathsBeside_3 : decode cX7_pathsBeside 3 = .ok (.istore_n 3, 1) := by decide +kernel
theorem dX7_pathsBeside_4 : decode cX7_pathsBeside 4 = .ok (.iload_n 3, 1) := by decide +kernel
theorem dX7_pathsBeside_5 : decode cX7_pathsBeside 5 = .ok (.iconst 4, 1) := by decide +kernel
theorem dX7_pathsBeside_6 : decode cX7_pathsBeside 6 = .ok (.if_icmp .ge 37, 3) := by decide +kernel
theorem dX7_pathsBeside_9 : decode cX7_pathsBeside 9 = .ok (.iload_n 2, 1) := by decide +kernel
theorem dX7_pathsBeside_10 : decode cX7_pathsBeside 10 = .ok (.iload_n 1, 1) := by decide +kernel
theorem dX7_pathsBeside_11 : decode cX7_pathsBeside 11 = .ok (.iload_n 3, 1) := by decide +kernel
theorem dX7_pathsBeside_12 : decode cX7_pathsBeside 12 = .ok (.invokestatic 123, 3) := by decide +kernel
theorem dX7_pathsBeside_15 : decode cX7_pathsBeside 15 = .ok (.ifCond .lt 19, 3) := by decide +kernel
theorem dX7_pathsBeside_18 : decode cX7_pathsBeside 18 = .ok (.aload_n 0, 1) := by decide +kernel
theorem dX7_pathsBeside_19 : decode cX7_pathsBeside 19 = .ok (.iload_n 1, 1) := by decide +kernel
theorem dX7_pathsBeside_20 : decode cX7_pathsBeside 20 = .ok (.iload_n 3, 1) := by decide +kernel
theorem dX7_pathsBeside_21 : decode cX7_pathsBeside 21 = .ok (.invokestatic 123, 3) := by decide +kernel
theorem dX7_pathsBeside_24 : decode cX7_pathsBeside 24 = .ok (.invokevirtual 126, 3) := by decide +kernel
theorem dX7_pathsBeside_27 : decode cX7_pathsBeside 27 = .ok (.ifCond .eq 7, 3) := by decide +kernel
theorem dX7_pathsBeside_30 : decode cX7_pathsBeside 30 = .ok (.iconst 1, 1) := by decide +kernel
theorem dX7_pathsBeside_31 : decode cX7_pathsBeside 31 = .ok (.goto 4, 3) := by decide +kernel
theorem dX7_pathsBeside_34 : decode cX7_pathsBeside 34 = .ok (.iconst 0, 1) := by decide +kernel
theorem dX7_pathsBeside_35 : decode cX7_pathsBeside 35 = .ok (.iadd, 1) := by decide +kernel
theorem dX7_pathsBeside_36 : decode cX7_pathsBeside 36 = .ok (.istore_n 2, 1) := by decide +kernel
theorem dX7_pathsBeside_37 : decode cX7_pathsBeside 37 = .ok (.iinc 3 1, 3) := by decide +kernel
theorem dX7_pathsBeside_40 : decode cX7_pathsBeside 40 = .ok (.goto (-36), 3) := by decide +kernel
theorem dX7_pathsBeside_43 : decode cX7_pathsBeside 43 = .ok (.iload_n 2, 1) := by decide +kernel
theorem dX7_pathsBeside_44 : decode cX7_pathsBeside 44 = .ok (.ireturn, 1) := by decide +kernel
set_option maxRecDepth 20000 in
theorem ggX7_headsOn_X7_seedIs : GoodIn wsX7_headsOn wsX7_seedIs := goodIn_r _ [6, 1, 7, 8, 5, 9, 10, 11, 12, 13, 14, 15, 16, 17, 18, 19, 20, 21, 22, 23, 24, 25, 26, 27, 28, 29, 30, 31, 32, 33, 34, 35, 36] (by decide +kernel) (by decide +kernel)
set_option maxRecDepth 20000 in
theorem gX7_headsOn_X7_seedIs : GoodIn wsX7_headsOn (wsV RX7 129 RX7 yX7_seedIs wsX7_seedIs) := goodIn_app (goodIn_of _ (by decide +kernel)) ggX7_headsOn_X7_seedIs
theorem dX7_headsOn_0 : decode cX7_headsOn 0 = .ok (.iconst 0, 1) := by decide +kernel
theorem dX7_headsOn_1 : decode cX7_headsOn 1 = .ok (.istore_n 2, 1) := by decide +kernel
theorem dX7_headsOn_2 : decode cX7_headsOn 2 = .ok (.iconst 0, 1) := by decide +kernel
theorem dX7_headsOn_3 : decode cX7_headsOn 3 = .ok (.istore_n 3, 1) := by decide +kernel
theorem dX7_headsOn_4 : decode cX7_headsOn 4 = .ok (.iload_n 3, 1) := by decide +kernel
theorem dX7_headsOn_5 : decode cX7_headsOn 5 = .ok (.aload_n 0, 1) := by decide +kernel
theorem dX7_headsOn_6 : decode cX7_headsOn 6 = .ok (.getfield 9, 3) := by decide +kernel
theorem dX7_headsOn_9 : decode cX7_headsOn 9 = .ok (.iconst 1, 1) := by decide +kernel
theorem dX7_headsOn_10 : decode cX7_headsOn 10 = .ok (.iaload, 1) := by decide +kernel
theorem dX7_headsOn_11 : decode cX7_headsOn 11 = .ok (.if_icmp .ge 29, 3) := by decide +kernel
theorem dX7_headsOn_14 : decode cX7_headsOn 14 = .ok (.iload_n 2, 1) := by decide +kernel
theorem dX7_headsOn_15 : decode cX7_headsOn 15 = .ok (.aload_n 0, 1) := by decide +kernel
theorem dX7_headsOn_16 : decode cX7_headsOn 16 = .ok (.iload_n 3, 1) := by decide +kernel
theorem dX7_headsOn_17 : decode cX7_headsOn 17 = .ok (.iconst 1, 1) := by decide +kernel
theorem dX7_headsOn_18 : decode cX7_headsOn 18 = .ok (.invokevirtual 129, 3) := by decide +kernel
theorem dX7_headsOn_21 : decode cX7_headsOn 21 = .ok (.iload_n 1, 1) := by decide +kernel
theorem dX7_headsOn_22 : decode cX7_headsOn 22 = .ok (.if_icmp .ne 9, 3) := by decide +kernel
theorem dX7_headsOn_25 : decode cX7_headsOn 25 = .ok (.iconst 1, 1) := by decide +kernel
theorem dX7_headsOn_26 : decode cX7_headsOn 26 = .ok (.iload_n 3, 1) := by decide +kernel
theorem dX7_headsOn_27 : decode cX7_headsOn 27 = .ok (.ishl, 1) := by decide +kernel
theorem dX7_headsOn_28 : decode cX7_headsOn 28 = .ok (.goto 4, 3) := by decide +kernel
theorem dX7_headsOn_31 : decode cX7_headsOn 31 = .ok (.iconst 0, 1) := by decide +kernel
theorem dX7_headsOn_32 : decode cX7_headsOn 32 = .ok (.ior, 1) := by decide +kernel
theorem dX7_headsOn_33 : decode cX7_headsOn 33 = .ok (.istore_n 2, 1) := by decide +kernel
theorem dX7_headsOn_34 : decode cX7_headsOn 34 = .ok (.iinc 3 1, 3) := by decide +kernel
theorem dX7_headsOn_37 : decode cX7_headsOn 37 = .ok (.goto (-33), 3) := by decide +kernel
theorem dX7_headsOn_40 : decode cX7_headsOn 40 = .ok (.iload_n 2, 1) := by decide +kernel
theorem dX7_headsOn_41 : decode cX7_headsOn 41 = .ok (.ireturn, 1) := by decide +kernel
set_option maxRecDepth 20000 in
theorem ggX7_cell_X7_isCell : GoodIn wsX7_cell wsX7_isCell := goodIn_r _ [6, 7, 8, 5, 9] (by decide +kernel) (by decide +kernel)
set_option maxRecDepth 20000 in
theorem gX7_cell_X7_isCell : GoodIn wsX7_cell (va_wsS RX7 116 yX7_isCell wsX7_isCell) := goodIn_app (goodIn_of _ (by decide +kernel)) ggX7_cell_X7_isCell
set_option maxRecDepth 20000 in
theorem ggX7_cell_X7_within : GoodIn wsX7_cell wsX7_within := goodIn_r _ [9] (by decide +kernel) (by decide +kernel)
set_option maxRecDepth 20000 in
theorem gX7_cell_X7_within : GoodIn wsX7_cell (va_wsS RX7 105 yX7_within wsX7_within) := goodIn_app (goodIn_of _ (by decide +kernel)) ggX7_cell_X7_within
set_option maxRecDepth 20000 in
theorem ggX7_cell_X7_finding : GoodIn wsX7_cell wsX7_finding := goodIn_r _ [13, 14, 1, 37, 38, 39, 40, 41, 42, 43, 44, 45, 46, 47, 48, 49, 50, 51, 52, 53, 54, 55, 56, 57, 58, 59, 60, 61, 62, 63] (by decide +kernel) (by decide +kernel)
set_option maxRecDepth 20000 in
theorem gX7_cell_X7_finding : GoodIn wsX7_cell (wsV RX7 101 RX7 yX7_finding wsX7_finding) := goodIn_app (goodIn_of _ (by decide +kernel)) ggX7_cell_X7_finding
set_option maxRecDepth 20000 in
theorem ggX7_cell_X7_pathsBeside : GoodIn wsX7_cell wsX7_pathsBeside := goodIn_r _ [18, 19, 20, 5, 21, 22, 23, 24, 25, 2, 37, 38, 39, 40, 41, 42, 43, 44, 45, 46, 47, 48, 49, 50, 51, 52, 53, 54, 55, 56, 57, 58, 59, 60, 61, 62, 63] (by decide +kernel) (by decide +kernel)
set_option maxRecDepth 20000 in
theorem gX7_cell_X7_pathsBeside : GoodIn wsX7_cell (wsV RX7 132 RX7 yX7_pathsBeside wsX7_pathsBeside) := goodIn_app (goodIn_of _ (by decide +kernel)) ggX7_cell_X7_pathsBeside
set_option maxRecDepth 20000 in
theorem ggX7_cell_X7_headsOn : GoodIn wsX7_cell wsX7_headsOn := goodIn_r _ [29, 2, 30, 31, 32, 5, 33, 34, 35, 36, 37, 38, 39, 40, 41, 42, 43, 44, 45, 46, 47, 48, 49, 50, 51, 52, 53, 54, 55, 56, 57, 58, 59, 60, 61, 62, 63] (by decide +kernel) (by decide +kernel)
set_option maxRecDepth 20000 in
theorem gX7_cell_X7_headsOn : GoodIn wsX7_cell (wsV RX7 135 RX7 yX7_headsOn wsX7_headsOn) := goodIn_app (goodIn_of _ (by decide +kernel)) ggX7_cell_X7_headsOn
theorem dX7_cell_0 : decode cX7_cell 0 = .ok (.iload_n 1, 1) := by decide +kernel
theorem dX7_cell_1 : decode cX7_cell 1 = .ok (.invokestatic 116, 3) := by decide +kernel
theorem dX7_cell_4 : decode cX7_cell 4 = .ok (.ifCond .eq 12, 3) := by decide +kernel
theorem dX7_cell_7 : decode cX7_cell 7 = .ok (.iload_n 2, 1) := by decide +kernel
theorem dX7_cell_8 : decode cX7_cell 8 = .ok (.iconst 0, 1) := by decide +kernel
theorem dX7_cell_9 : decode cX7_cell 9 = .ok (.iconst 3, 1) := by decide +kernel
theorem dX7_cell_10 : decode cX7_cell 10 = .ok (.invokestatic 105, 3) := by decide +kernel
theorem dX7_cell_13 : decode cX7_cell 13 = .ok (.ifCond .ne 10, 3) := by decide +kernel
theorem dX7_cell_16 : decode cX7_cell 16 = .ok (.aload_n 0, 1) := by decide +kernel
theorem dX7_cell_17 : decode cX7_cell 17 = .ok (.ldc 95, 2) := by decide +kernel
theorem dX7_cell_19 : decode cX7_cell 19 = .ok (.invokevirtual 101, 3) := by decide +kernel
theorem dX7_cell_22 : decode cX7_cell 22 = .ok (.ireturn, 1) := by decide +kernel
theorem dX7_cell_23 : decode cX7_cell 23 = .ok (.iload_n 2, 1) := by decide +kernel
theorem dX7_cell_24 : decode cX7_cell 24 = .ok (.ifCond .ne 15, 3) := by decide +kernel
theorem dX7_cell_27 : decode cX7_cell 27 = .ok (.aload_n 0, 1) := by decide +kernel
theorem dX7_cell_28 : decode cX7_cell 28 = .ok (.getfield 9, 3) := by decide +kernel
theorem dX7_cell_31 : decode cX7_cell 31 = .ok (.bipush 13, 2) := by decide +kernel
theorem dX7_cell_33 : decode cX7_cell 33 = .ok (.iload_n 1, 1) := by decide +kernel
theorem dX7_cell_34 : decode cX7_cell 34 = .ok (.iadd, 1) := by decide +kernel
theorem dX7_cell_35 : decode cX7_cell 35 = .ok (.iaload, 1) := by decide +kernel
theorem dX7_cell_36 : decode cX7_cell 36 = .ok (.goto 38, 3) := by decide +kernel
theorem dX7_cell_39 : decode cX7_cell 39 = .ok (.iload_n 2, 1) := by decide +kernel
theorem dX7_cell_40 : decode cX7_cell 40 = .ok (.iconst 1, 1) := by decide +kernel
theorem dX7_cell_41 : decode cX7_cell 41 = .ok (.if_icmp .ne 15, 3) := by decide +kernel
theorem dX7_cell_44 : decode cX7_cell 44 = .ok (.aload_n 0, 1) := by decide +kernel
theorem dX7_cell_45 : decode cX7_cell 45 = .ok (.getfield 9, 3) := by decide +kernel
theorem dX7_cell_48 : decode cX7_cell 48 = .ok (.bipush 49, 2) := by decide +kernel
theorem dX7_cell_50 : decode cX7_cell 50 = .ok (.iload_n 1, 1) := by decide +kernel
theorem dX7_cell_51 : decode cX7_cell 51 = .ok (.iadd, 1) := by decide +kernel
theorem dX7_cell_52 : decode cX7_cell 52 = .ok (.iaload, 1) := by decide +kernel
theorem dX7_cell_53 : decode cX7_cell 53 = .ok (.goto 21, 3) := by decide +kernel
theorem dX7_cell_56 : decode cX7_cell 56 = .ok (.iload_n 2, 1) := by decide +kernel
theorem dX7_cell_57 : decode cX7_cell 57 = .ok (.iconst 2, 1) := by decide +kernel
theorem dX7_cell_58 : decode cX7_cell 58 = .ok (.if_icmp .ne 11, 3) := by decide +kernel
theorem dX7_cell_61 : decode cX7_cell 61 = .ok (.aload_n 0, 1) := by decide +kernel
theorem dX7_cell_62 : decode cX7_cell 62 = .ok (.iload_n 1, 1) := by decide +kernel
theorem dX7_cell_63 : decode cX7_cell 63 = .ok (.invokevirtual 132, 3) := by decide +kernel
theorem dX7_cell_66 : decode cX7_cell 66 = .ok (.goto 8, 3) := by decide +kernel
theorem dX7_cell_69 : decode cX7_cell 69 = .ok (.aload_n 0, 1) := by decide +kernel
theorem dX7_cell_70 : decode cX7_cell 70 = .ok (.iload_n 1, 1) := by decide +kernel
theorem dX7_cell_71 : decode cX7_cell 71 = .ok (.invokevirtual 135, 3) := by decide +kernel
theorem dX7_cell_74 : decode cX7_cell 74 = .ok (.ireturn, 1) := by decide +kernel
set_option maxRecDepth 20000 in
theorem ggX7_tread_X7_isCell : GoodIn wsX7_tread wsX7_isCell := goodIn_r _ [6, 7, 8, 5, 9] (by decide +kernel) (by decide +kernel)
set_option maxRecDepth 20000 in
theorem gX7_tread_X7_isCell : GoodIn wsX7_tread (va_wsS RX7 116 yX7_isCell wsX7_isCell) := goodIn_app (goodIn_of _ (by decide +kernel)) ggX7_tread_X7_isCell
set_option maxRecDepth 20000 in
theorem ggX7_tread_X7_isPath : GoodIn wsX7_tread wsX7_isPath := goodIn_r _ [12, 7, 8, 5, 9] (by decide +kernel) (by decide +kernel)
set_option maxRecDepth 20000 in
theorem gX7_tread_X7_isPath : GoodIn wsX7_tread (va_wsS RX7 138 yX7_isPath wsX7_isPath) := goodIn_app (goodIn_of _ (by decide +kernel)) ggX7_tread_X7_isPath
set_option maxRecDepth 20000 in
theorem ggX7_tread_X7_finding : GoodIn wsX7_tread wsX7_finding := goodIn_r _ [16, 17, 1, 27, 28, 29, 30, 31, 32, 33, 34, 35, 36, 37, 38, 39, 40, 41, 42, 43, 44, 45, 46, 47, 48, 49, 50, 51, 52, 53] (by decide +kernel) (by decide +kernel)
set_option maxRecDepth 20000 in
theorem gX7_tread_X7_finding : GoodIn wsX7_tread (wsV RX7 101 RX7 yX7_finding wsX7_finding) := goodIn_app (goodIn_of _ (by decide +kernel)) ggX7_tread_X7_finding
set_option maxRecDepth 20000 in
theorem ggX7_tread_X7_isGrass : GoodIn wsX7_tread wsX7_isGrass := goodIn_r _ [21, 22, 27, 28, 29, 30, 31, 32, 33, 34, 35, 36, 37, 38, 39, 40, 41, 42, 43, 44, 45, 46, 47, 48, 49, 50, 51, 52, 53] (by decide +kernel) (by decide +kernel)
set_option maxRecDepth 20000 in
theorem gX7_tread_X7_isGrass : GoodIn wsX7_tread (wsV RX7 141 RX7 yX7_isGrass wsX7_isGrass) := goodIn_app (goodIn_of _ (by decide +kernel)) ggX7_tread_X7_isGrass
set_option maxRecDepth 20000 in
theorem ggX7_tread_X7_become : GoodIn wsX7_tread wsX7_become := goodIn_r _ [26, 22, 27, 28, 29, 30, 31, 32, 33, 34, 35, 36, 37, 38, 39, 40, 41, 42, 43, 44, 45, 46, 47, 48, 49, 50, 51, 52, 53] (by decide +kernel) (by decide +kernel)
set_option maxRecDepth 20000 in
theorem gX7_tread_X7_become : GoodIn wsX7_tread (wsV RX7 113 RX7 yX7_become wsX7_become) := goodIn_app (goodIn_of _ (by decide +kernel)) ggX7_tread_X7_become
theorem dX7_tread_0 : decode cX7_tread 0 = .ok (.iload_n 1, 1) := by decide +kernel
theorem dX7_tread_1 : decode cX7_tread 1 = .ok (.invokestatic 116, 3) := by decide +kernel
theorem dX7_tread_4 : decode cX7_tread 4 = .ok (.ifCond .eq 10, 3) := by decide +kernel
theorem dX7_tread_7 : decode cX7_tread 7 = .ok (.iload_n 2, 1) := by decide +kernel
theorem dX7_tread_8 : decode cX7_tread 8 = .ok (.invokestatic 138, 3) := by decide +kernel
theorem dX7_tread_11 : decode cX7_tread 11 = .ok (.ifCond .ne 10, 3) := by decide +kernel
theorem dX7_tread_14 : decode cX7_tread 14 = .ok (.aload_n 0, 1) := by decide +kernel
theorem dX7_tread_15 : decode cX7_tread 15 = .ok (.ldc 95, 2) := by decide +kernel
theorem dX7_tread_17 : decode cX7_tread 17 = .ok (.invokevirtual 101, 3) := by decide +kernel
theorem dX7_tread_20 : decode cX7_tread 20 = .ok (.ireturn, 1) := by decide +kernel
theorem dX7_tread_21 : decode cX7_tread 21 = .ok (.aload_n 0, 1) := by decide +kernel
theorem dX7_tread_22 : decode cX7_tread 22 = .ok (.iload_n 1, 1) := by decide +kernel
theorem dX7_tread_23 : decode cX7_tread 23 = .ok (.invokevirtual 141, 3) := by decide +kernel
theorem dX7_tread_26 : decode cX7_tread 26 = .ok (.ifCond .eq 15, 3) := by decide +kernel
theorem dX7_tread_29 : decode cX7_tread 29 = .ok (.aload_n 0, 1) := by decide +kernel
theorem dX7_tread_30 : decode cX7_tread 30 = .ok (.bipush 49, 2) := by decide +kernel
theorem dX7_tread_32 : decode cX7_tread 32 = .ok (.iload_n 1, 1) := by decide +kernel
theorem dX7_tread_33 : decode cX7_tread 33 = .ok (.iadd, 1) := by decide +kernel
theorem dX7_tread_34 : decode cX7_tread 34 = .ok (.iload_n 2, 1) := by decide +kernel
theorem dX7_tread_35 : decode cX7_tread 35 = .ok (.invokevirtual 113, 3) := by decide +kernel
theorem dX7_tread_38 : decode cX7_tread 38 = .ok (.goto 9, 3) := by decide +kernel
theorem dX7_tread_41 : decode cX7_tread 41 = .ok (.aload_n 0, 1) := by decide +kernel
theorem dX7_tread_42 : decode cX7_tread 42 = .ok (.ldc 144, 2) := by decide +kernel
theorem dX7_tread_44 : decode cX7_tread 44 = .ok (.invokevirtual 101, 3) := by decide +kernel
theorem dX7_tread_47 : decode cX7_tread 47 = .ok (.ireturn, 1) := by decide +kernel
set_option maxRecDepth 20000 in
theorem ggX7_comes_X7_at : GoodIn wsX7_comes wsX7_at := goodIn_r _ [5] (by decide +kernel) (by decide +kernel)
set_option maxRecDepth 20000 in
theorem gX7_comes_X7_at : GoodIn wsX7_comes (va_wsS RX7 109 yX7_at wsX7_at) := goodIn_app (goodIn_of _ (by decide +kernel)) ggX7_comes_X7_at
theorem dX7_comes_0 : decode cX7_comes 0 = .ok (.aload_n 0, 1) := by decide +kernel
theorem dX7_comes_1 : decode cX7_comes 1 = .ok (.getfield 9, 3) := by decide +kernel
theorem dX7_comes_4 : decode cX7_comes 4 = .ok (.iconst 1, 1) := by decide +kernel
theorem dX7_comes_5 : decode cX7_comes 5 = .ok (.iaload, 1) := by decide +kernel
theorem dX7_comes_6 : decode cX7_comes 6 = .ok (.istore 5, 2) := by decide +kernel
theorem dX7_comes_8 : decode cX7_comes 8 = .ok (.aload_n 0, 1) := by decide +kernel
theorem dX7_comes_9 : decode cX7_comes 9 = .ok (.getfield 9, 3) := by decide +kernel
theorem dX7_comes_12 : decode cX7_comes 12 = .ok (.iload 5, 2) := by decide +kernel
theorem dX7_comes_14 : decode cX7_comes 14 = .ok (.iconst 0, 1) := by decide +kernel
theorem dX7_comes_15 : decode cX7_comes 15 = .ok (.invokestatic 109, 3) := by decide +kernel
theorem dX7_comes_18 : decode cX7_comes 18 = .ok (.iload_n 1, 1) := by decide +kernel
theorem dX7_comes_19 : decode cX7_comes 19 = .ok (.iastore, 1) := by decide +kernel
theorem dX7_comes_20 : decode cX7_comes 20 = .ok (.aload_n 0, 1) := by decide +kernel
theorem dX7_comes_21 : decode cX7_comes 21 = .ok (.getfield 9, 3) := by decide +kernel
theorem dX7_comes_24 : decode cX7_comes 24 = .ok (.iload 5, 2) := by decide +kernel
theorem dX7_comes_26 : decode cX7_comes 26 = .ok (.iconst 1, 1) := by decide +kernel
theorem dX7_comes_27 : decode cX7_comes 27 = .ok (.invokestatic 109, 3) := by decide +kernel
theorem dX7_comes_30 : decode cX7_comes 30 = .ok (.iload_n 2, 1) := by decide +kernel
theorem dX7_comes_31 : decode cX7_comes 31 = .ok (.iastore, 1) := by decide +kernel
theorem dX7_comes_32 : decode cX7_comes 32 = .ok (.aload_n 0, 1) := by decide +kernel
theorem dX7_comes_33 : decode cX7_comes 33 = .ok (.getfield 9, 3) := by decide +kernel
theorem dX7_comes_36 : decode cX7_comes 36 = .ok (.iload 5, 2) := by decide +kernel
theorem dX7_comes_38 : decode cX7_comes 38 = .ok (.iconst 2, 1) := by decide +kernel
theorem dX7_comes_39 : decode cX7_comes 39 = .ok (.invokestatic 109, 3) := by decide +kernel
theorem dX7_comes_42 : decode cX7_comes 42 = .ok (.iload_n 3, 1) := by decide +kernel
theorem dX7_comes_43 : decode cX7_comes 43 = .ok (.iastore, 1) := by decide +kernel
theorem dX7_comes_44 : decode cX7_comes 44 = .ok (.aload_n 0, 1) := by decide +kernel
theorem dX7_comes_45 : decode cX7_comes 45 = .ok (.getfield 9, 3) := by decide +kernel
theorem dX7_comes_48 : decode cX7_comes 48 = .ok (.iload 5, 2) := by decide +kernel
theorem dX7_comes_50 : decode cX7_comes 50 = .ok (.iconst 3, 1) := by decide +kernel
theorem dX7_comes_51 : decode cX7_comes 51 = .ok (.invokestatic 109, 3) := by decide +kernel
theorem dX7_comes_54 : decode cX7_comes 54 = .ok (.iload 4, 2) := by decide +kernel
theorem dX7_comes_56 : decode cX7_comes 56 = .ok (.iastore, 1) := by decide +kernel
theorem dX7_comes_57 : decode cX7_comes 57 = .ok (.aload_n 0, 1) := by decide +kernel
theorem dX7_comes_58 : decode cX7_comes 58 = .ok (.getfield 9, 3) := by decide +kernel
theorem dX7_comes_61 : decode cX7_comes 61 = .ok (.iconst 1, 1) := by decide +kernel
theorem dX7_comes_62 : decode cX7_comes 62 = .ok (.dup2, 1) := by decide +kernel
theorem dX7_comes_63 : decode cX7_comes 63 = .ok (.iaload, 1) := by decide +kernel
theorem dX7_comes_64 : decode cX7_comes 64 = .ok (.iconst 1, 1) := by decide +kernel
theorem dX7_comes_65 : decode cX7_comes 65 = .ok (.iadd, 1) := by decide +kernel
theorem dX7_comes_66 : decode cX7_comes 66 = .ok (.iastore, 1) := by decide +kernel
theorem dX7_comes_67 : decode cX7_comes 67 = .ok (.iload 5, 2) := by decide +kernel
theorem dX7_comes_69 : decode cX7_comes 69 = .ok (.ireturn, 1) := by decide +kernel
set_option maxRecDepth 20000 in
theorem ggX7_sow_X7_isKind : GoodIn wsX7_sow wsX7_isKind := goodIn_r _ [7, 8, 9, 6, 10] (by decide +kernel) (by decide +kernel)
set_option maxRecDepth 20000 in
theorem gX7_sow_X7_isKind : GoodIn wsX7_sow (va_wsS RX7 145 yX7_isKind wsX7_isKind) := goodIn_app (goodIn_of _ (by decide +kernel)) ggX7_sow_X7_isKind
set_option maxRecDepth 20000 in
theorem ggX7_sow_X7_isCell : GoodIn wsX7_sow wsX7_isCell := goodIn_r _ [13, 8, 9, 6, 10] (by decide +kernel) (by decide +kernel)
set_option maxRecDepth 20000 in
theorem gX7_sow_X7_isCell : GoodIn wsX7_sow (va_wsS RX7 116 yX7_isCell wsX7_isCell) := goodIn_app (goodIn_of _ (by decide +kernel)) ggX7_sow_X7_isCell
set_option maxRecDepth 20000 in
theorem ggX7_sow_X7_isHeading : GoodIn wsX7_sow wsX7_isHeading := goodIn_r _ [16, 8, 9, 6, 10] (by decide +kernel) (by decide +kernel)
set_option maxRecDepth 20000 in
theorem gX7_sow_X7_isHeading : GoodIn wsX7_sow (va_wsS RX7 148 yX7_isHeading wsX7_isHeading) := goodIn_app (goodIn_of _ (by decide +kernel)) ggX7_sow_X7_isHeading
set_option maxRecDepth 20000 in
theorem ggX7_sow_X7_finding : GoodIn wsX7_sow wsX7_finding := goodIn_r _ [20, 21, 1, 29, 30, 31, 32, 33, 34, 35, 36, 37, 38, 39, 40, 41, 42, 43, 44, 45, 46, 47, 48, 49, 50, 51, 52, 53, 54, 55] (by decide +kernel) (by decide +kernel)
set_option maxRecDepth 20000 in
theorem gX7_sow_X7_finding : GoodIn wsX7_sow (wsV RX7 101 RX7 yX7_finding wsX7_finding) := goodIn_app (goodIn_of _ (by decide +kernel)) ggX7_sow_X7_finding
set_option maxRecDepth 20000 in
theorem ggX7_sow_X7_comes : GoodIn wsX7_sow wsX7_comes := goodIn_r _ [25, 2, 26, 27, 6, 28, 29, 30, 31, 32, 33, 34, 35, 36, 37, 38, 39, 40, 41, 42, 43, 44, 45, 46, 47, 48, 49, 50, 51, 52, 53, 54, 55] (by decide +kernel) (by decide +kernel)
set_option maxRecDepth 20000 in
theorem gX7_sow_X7_comes : GoodIn wsX7_sow (wsV RX7 152 RX7 yX7_comes wsX7_comes) := goodIn_app (goodIn_of _ (by decide +kernel)) ggX7_sow_X7_comes
theorem dX7_sow_0 : decode cX7_sow 0 = .ok (.iload_n 1, 1) := by decide +kernel
theorem dX7_sow_1 : decode cX7_sow 1 = .ok (.invokestatic 145, 3) := by decide +kernel
theorem dX7_sow_4 : decode cX7_sow 4 = .ok (.ifCond .eq 17, 3) := by decide +kernel
theorem dX7_sow_7 : decode cX7_sow 7 = .ok (.iload_n 2, 1) := by decide +kernel
theorem dX7_sow_8 : decode cX7_sow 8 = .ok (.invokestatic 116, 3) := by decide +kernel
theorem dX7_sow_11 : decode cX7_sow 11 = .ok (.ifCond .eq 10, 3) := by decide +kernel
theorem dX7_sow_14 : decode cX7_sow 14 = .ok (.iload_n 3, 1) := by decide +kernel
theorem dX7_sow_15 : decode cX7_sow 15 = .ok (.invokestatic 148, 3) := by decide +kernel
theorem dX7_sow_18 : decode cX7_sow 18 = .ok (.ifCond .ne 10, 3) := by decide +kernel
theorem dX7_sow_21 : decode cX7_sow 21 = .ok (.aload_n 0, 1) := by decide +kernel
theorem dX7_sow_22 : decode cX7_sow 22 = .ok (.ldc 95, 2) := by decide +kernel
theorem dX7_sow_24 : decode cX7_sow 24 = .ok (.invokevirtual 101, 3) := by decide +kernel
theorem dX7_sow_27 : decode cX7_sow 27 = .ok (.ireturn, 1) := by decide +kernel
theorem dX7_sow_28 : decode cX7_sow 28 = .ok (.aload_n 0, 1) := by decide +kernel
theorem dX7_sow_29 : decode cX7_sow 29 = .ok (.getfield 9, 3) := by decide +kernel
theorem dX7_sow_32 : decode cX7_sow 32 = .ok (.iconst 1, 1) := by decide +kernel
theorem dX7_sow_33 : decode cX7_sow 33 = .ok (.iaload, 1) := by decide +kernel
theorem dX7_sow_34 : decode cX7_sow 34 = .ok (.bipush 8, 2) := by decide +kernel
theorem dX7_sow_36 : decode cX7_sow 36 = .ok (.if_icmp .ne 12, 3) := by decide +kernel
theorem dX7_sow_39 : decode cX7_sow 39 = .ok (.aload_n 0, 1) := by decide +kernel
theorem dX7_sow_40 : decode cX7_sow 40 = .ok (.ldc 151, 2) := by decide +kernel
theorem dX7_sow_42 : decode cX7_sow 42 = .ok (.invokevirtual 101, 3) := by decide +kernel
theorem dX7_sow_45 : decode cX7_sow 45 = .ok (.goto 11, 3) := by decide +kernel
theorem dX7_sow_48 : decode cX7_sow 48 = .ok (.aload_n 0, 1) := by decide +kernel
theorem dX7_sow_49 : decode cX7_sow 49 = .ok (.iload_n 1, 1) := by decide +kernel
theorem dX7_sow_50 : decode cX7_sow 50 = .ok (.iload_n 2, 1) := by decide +kernel
theorem dX7_sow_51 : decode cX7_sow 51 = .ok (.iload_n 3, 1) := by decide +kernel
theorem dX7_sow_52 : decode cX7_sow 52 = .ok (.iconst 0, 1) := by decide +kernel
theorem dX7_sow_53 : decode cX7_sow 53 = .ok (.invokevirtual 152, 3) := by decide +kernel
theorem dX7_sow_56 : decode cX7_sow 56 = .ok (.ireturn, 1) := by decide +kernel
set_option maxRecDepth 20000 in
theorem ggX7_isAlive_X7_seedIs : GoodIn wsX7_isAlive wsX7_seedIs := goodIn_r _ [6, 7, 8, 9, 5, 10, 11, 12, 13, 14, 15, 16, 17, 18, 19, 20, 21, 22, 23, 24, 25, 26, 27, 28, 29, 30, 31, 32, 33, 34, 35, 36, 37] (by decide +kernel) (by decide +kernel)
set_option maxRecDepth 20000 in
theorem gX7_isAlive_X7_seedIs : GoodIn wsX7_isAlive (wsV RX7 129 RX7 yX7_seedIs wsX7_seedIs) := goodIn_app (goodIn_of _ (by decide +kernel)) ggX7_isAlive_X7_seedIs
theorem dX7_isAlive_0 : decode cX7_isAlive 0 = .ok (.aload_n 0, 1) := by decide +kernel
theorem dX7_isAlive_1 : decode cX7_isAlive 1 = .ok (.iload_n 1, 1) := by decide +kernel
theorem dX7_isAlive_2 : decode cX7_isAlive 2 = .ok (.iconst 3, 1) := by decide +kernel
theorem dX7_isAlive_3 : decode cX7_isAlive 3 = .ok (.invokevirtual 129, 3) := by decide +kernel
theorem dX7_isAlive_6 : decode cX7_isAlive 6 = .ok (.aload_n 0, 1) := by decide +kernel
theorem dX7_isAlive_7 : decode cX7_isAlive 7 = .ok (.getfield 28, 3) := by decide +kernel
theorem dX7_isAlive_10 : decode cX7_isAlive 10 = .ok (.aload_n 0, 1) := by decide +kernel
theorem dX7_isAlive_11 : decode cX7_isAlive 11 = .ok (.iload_n 1, 1) := by decide +kernel
theorem dX7_isAlive_12 : decode cX7_isAlive 12 = .ok (.iconst 0, 1) := by decide +kernel
theorem dX7_isAlive_13 : decode cX7_isAlive 13 = .ok (.invokevirtual 129, 3) := by decide +kernel
theorem dX7_isAlive_16 : decode cX7_isAlive 16 = .ok (.iaload, 1) := by decide +kernel
theorem dX7_isAlive_17 : decode cX7_isAlive 17 = .ok (.if_icmp .ge 7, 3) := by decide +kernel
theorem dX7_isAlive_20 : decode cX7_isAlive 20 = .ok (.iconst 1, 1) := by decide +kernel
theorem dX7_isAlive_21 : decode cX7_isAlive 21 = .ok (.goto 4, 3) := by decide +kernel
theorem dX7_isAlive_24 : decode cX7_isAlive 24 = .ok (.iconst 0, 1) := by decide +kernel
theorem dX7_isAlive_25 : decode cX7_isAlive 25 = .ok (.ireturn, 1) := by decide +kernel
theorem dX7_apartOf_0 : decode cX7_apartOf 0 = .ok (.iload_n 0, 1) := by decide +kernel
theorem dX7_apartOf_1 : decode cX7_apartOf 1 = .ok (.bipush 6, 2) := by decide +kernel
theorem dX7_apartOf_3 : decode cX7_apartOf 3 = .ok (.idiv, 1) := by decide +kernel
theorem dX7_apartOf_4 : decode cX7_apartOf 4 = .ok (.iload_n 1, 1) := by decide +kernel
theorem dX7_apartOf_5 : decode cX7_apartOf 5 = .ok (.bipush 6, 2) := by decide +kernel
theorem dX7_apartOf_7 : decode cX7_apartOf 7 = .ok (.idiv, 1) := by decide +kernel
theorem dX7_apartOf_8 : decode cX7_apartOf 8 = .ok (.isub, 1) := by decide +kernel
theorem dX7_apartOf_9 : decode cX7_apartOf 9 = .ok (.invokestatic 156, 3) := by decide +kernel
theorem dX7_apartOf_12 : decode cX7_apartOf 12 = .ok (.iload_n 0, 1) := by decide +kernel
theorem dX7_apartOf_13 : decode cX7_apartOf 13 = .ok (.bipush 6, 2) := by decide +kernel
theorem dX7_apartOf_15 : decode cX7_apartOf 15 = .ok (.irem, 1) := by decide +kernel
theorem dX7_apartOf_16 : decode cX7_apartOf 16 = .ok (.iload_n 1, 1) := by decide +kernel
theorem dX7_apartOf_17 : decode cX7_apartOf 17 = .ok (.bipush 6, 2) := by decide +kernel
theorem dX7_apartOf_19 : decode cX7_apartOf 19 = .ok (.irem, 1) := by decide +kernel
theorem dX7_apartOf_20 : decode cX7_apartOf 20 = .ok (.isub, 1) := by decide +kernel
theorem dX7_apartOf_21 : decode cX7_apartOf 21 = .ok (.invokestatic 156, 3) := by decide +kernel
theorem dX7_apartOf_24 : decode cX7_apartOf 24 = .ok (.iadd, 1) := by decide +kernel
theorem dX7_apartOf_25 : decode cX7_apartOf 25 = .ok (.ireturn, 1) := by decide +kernel
set_option maxRecDepth 20000 in
theorem ggX7_toward_X7_beside : GoodIn wsX7_toward wsX7_beside := goodIn_r _ [4] (by decide +kernel) (by decide +kernel)
set_option maxRecDepth 20000 in
theorem gX7_toward_X7_beside : GoodIn wsX7_toward (va_wsS RX7 123 yX7_beside wsX7_beside) := goodIn_app (goodIn_of _ (by decide +kernel)) ggX7_toward_X7_beside
set_option maxRecDepth 20000 in
theorem ggX7_toward_X7_apartOf : GoodIn wsX7_toward wsX7_apartOf := goodIn_r _ [7, 8, 9, 10, 11] (by decide +kernel) (by decide +kernel)
set_option maxRecDepth 20000 in
theorem gX7_toward_X7_apartOf : GoodIn wsX7_toward (va_wsS RX7 161 yX7_apartOf wsX7_apartOf) := goodIn_app (goodIn_of _ (by decide +kernel)) ggX7_toward_X7_apartOf
theorem dX7_toward_0 : decode cX7_toward 0 = .ok (.iconst 0, 1) := by decide +kernel
theorem dX7_toward_1 : decode cX7_toward 1 = .ok (.istore_n 2, 1) := by decide +kernel
theorem dX7_toward_2 : decode cX7_toward 2 = .ok (.iload_n 0, 1) := by decide +kernel
theorem dX7_toward_3 : decode cX7_toward 3 = .ok (.iload_n 2, 1) := by decide +kernel
theorem dX7_toward_4 : decode cX7_toward 4 = .ok (.invokestatic 123, 3) := by decide +kernel
theorem dX7_toward_7 : decode cX7_toward 7 = .ok (.ifCond .lt 20, 3) := by decide +kernel
theorem dX7_toward_10 : decode cX7_toward 10 = .ok (.iload_n 0, 1) := by decide +kernel
theorem dX7_toward_11 : decode cX7_toward 11 = .ok (.iload_n 2, 1) := by decide +kernel
theorem dX7_toward_12 : decode cX7_toward 12 = .ok (.invokestatic 123, 3) := by decide +kernel
theorem dX7_toward_15 : decode cX7_toward 15 = .ok (.iload_n 1, 1) := by decide +kernel
theorem dX7_toward_16 : decode cX7_toward 16 = .ok (.invokestatic 161, 3) := by decide +kernel
theorem dX7_toward_19 : decode cX7_toward 19 = .ok (.iload_n 0, 1) := by decide +kernel
theorem dX7_toward_20 : decode cX7_toward 20 = .ok (.iload_n 1, 1) := by decide +kernel
theorem dX7_toward_21 : decode cX7_toward 21 = .ok (.invokestatic 161, 3) := by decide +kernel
theorem dX7_toward_24 : decode cX7_toward 24 = .ok (.if_icmp .lt 9, 3) := by decide +kernel
theorem dX7_toward_27 : decode cX7_toward 27 = .ok (.iinc 2 1, 3) := by decide +kernel
theorem dX7_toward_30 : decode cX7_toward 30 = .ok (.goto (-28), 3) := by decide +kernel
theorem dX7_toward_33 : decode cX7_toward 33 = .ok (.iload_n 2, 1) := by decide +kernel
theorem dX7_toward_34 : decode cX7_toward 34 = .ok (.ireturn, 1) := by decide +kernel
set_option maxRecDepth 20000 in
theorem ggX7_nearestWater_X7_apartOf : GoodIn wsX7_nearestWater wsX7_apartOf := goodIn_r _ [5, 6, 7, 8, 9] (by decide +kernel) (by decide +kernel)
set_option maxRecDepth 20000 in
theorem gX7_nearestWater_X7_apartOf : GoodIn wsX7_nearestWater (va_wsS RX7 161 yX7_apartOf wsX7_apartOf) := goodIn_app (goodIn_of _ (by decide +kernel)) ggX7_nearestWater_X7_apartOf
theorem dX7_nearestWater_0 : decode cX7_nearestWater 0 = .ok (.iconst (-1), 1) := by decide +kernel
theorem dX7_nearestWater_1 : decode cX7_nearestWater 1 = .ok (.istore_n 2, 1) := by decide +kernel
theorem dX7_nearestWater_2 : decode cX7_nearestWater 2 = .ok (.iconst 0, 1) := by decide +kernel
theorem dX7_nearestWater_3 : decode cX7_nearestWater 3 = .ok (.istore_n 3, 1) := by decide +kernel
theorem dX7_nearestWater_4 : decode cX7_nearestWater 4 = .ok (.iload_n 3, 1) := by decide +kernel
theorem dX7_nearestWater_5 : decode cX7_nearestWater 5 = .ok (.bipush 36, 2) := by decide +kernel
theorem dX7_nearestWater_7 : decode cX7_nearestWater 7 = .ok (.if_icmp .ge 57, 3) := by decide +kernel
theorem dX7_nearestWater_10 : decode cX7_nearestWater 10 = .ok (.aload_n 0, 1) := by decide +kernel
theorem dX7_nearestWater_11 : decode cX7_nearestWater 11 = .ok (.getfield 9, 3) := by decide +kernel
theorem dX7_nearestWater_14 : decode cX7_nearestWater 14 = .ok (.bipush 13, 2) := by decide +kernel
theorem dX7_nearestWater_16 : decode cX7_nearestWater 16 = .ok (.iload_n 3, 1) := by decide +kernel
theorem dX7_nearestWater_17 : decode cX7_nearestWater 17 = .ok (.iadd, 1) := by decide +kernel
theorem dX7_nearestWater_18 : decode cX7_nearestWater 18 = .ok (.iaload, 1) := by decide +kernel
theorem dX7_nearestWater_19 : decode cX7_nearestWater 19 = .ok (.iconst 1, 1) := by decide +kernel
theorem dX7_nearestWater_20 : decode cX7_nearestWater 20 = .ok (.if_icmp .ne 7, 3) := by decide +kernel
theorem dX7_nearestWater_23 : decode cX7_nearestWater 23 = .ok (.iconst 1, 1) := by decide +kernel
theorem dX7_nearestWater_24 : decode cX7_nearestWater 24 = .ok (.goto 4, 3) := by decide +kernel
theorem dX7_nearestWater_27 : decode cX7_nearestWater 27 = .ok (.iconst 0, 1) := by decide +kernel
theorem dX7_nearestWater_28 : decode cX7_nearestWater 28 = .ok (.istore 4, 2) := by decide +kernel
theorem dX7_nearestWater_30 : decode cX7_nearestWater 30 = .ok (.iload 4, 2) := by decide +kernel
theorem dX7_nearestWater_32 : decode cX7_nearestWater 32 = .ok (.ifCond .eq 24, 3) := by decide +kernel
theorem dX7_nearestWater_35 : decode cX7_nearestWater 35 = .ok (.iload_n 2, 1) := by decide +kernel
theorem dX7_nearestWater_36 : decode cX7_nearestWater 36 = .ok (.ifCond .lt 16, 3) := by decide +kernel
theorem dX7_nearestWater_39 : decode cX7_nearestWater 39 = .ok (.iload_n 1, 1) := by decide +kernel
theorem dX7_nearestWater_40 : decode cX7_nearestWater 40 = .ok (.iload_n 3, 1) := by decide +kernel
theorem dX7_nearestWater_41 : decode cX7_nearestWater 41 = .ok (.invokestatic 161, 3) := by decide +kernel
theorem dX7_nearestWater_44 : decode cX7_nearestWater 44 = .ok (.iload_n 1, 1) := by decide +kernel
theorem dX7_nearestWater_45 : decode cX7_nearestWater 45 = .ok (.iload_n 2, 1) := by decide +kernel
theorem dX7_nearestWater_46 : decode cX7_nearestWater 46 = .ok (.invokestatic 161, 3) := by decide +kernel
theorem dX7_nearestWater_49 : decode cX7_nearestWater 49 = .ok (.if_icmp .ge 7, 3) := by decide +kernel
theorem dX7_nearestWater_52 : decode cX7_nearestWater 52 = .ok (.iload_n 3, 1) := by decide +kernel
theorem dX7_nearestWater_53 : decode cX7_nearestWater 53 = .ok (.goto 4, 3) := by decide +kernel
theorem dX7_nearestWater_56 : decode cX7_nearestWater 56 = .ok (.iload_n 2, 1) := by decide +kernel
theorem dX7_nearestWater_57 : decode cX7_nearestWater 57 = .ok (.istore_n 2, 1) := by decide +kernel
theorem dX7_nearestWater_58 : decode cX7_nearestWater 58 = .ok (.iinc 3 1, 3) := by decide +kernel
theorem dX7_nearestWater_61 : decode cX7_nearestWater 61 = .ok (.goto (-57), 3) := by decide +kernel
theorem dX7_nearestWater_64 : decode cX7_nearestWater 64 = .ok (.iload_n 2, 1) := by decide +kernel
theorem dX7_nearestWater_65 : decode cX7_nearestWater 65 = .ok (.ireturn, 1) := by decide +kernel
set_option maxRecDepth 20000 in
theorem ggX7_nearestHead_X7_seedIs : GoodIn wsX7_nearestHead wsX7_seedIs := goodIn_r _ [6, 1, 7, 8, 5, 9, 22, 23, 24, 25, 26, 27, 28, 29, 30, 31, 32, 33, 34, 35, 36, 37, 38, 39, 40, 41, 42, 43, 44, 45, 46, 47, 48] (by decide +kernel) (by decide +kernel)
set_option maxRecDepth 20000 in
theorem gX7_nearestHead_X7_seedIs : GoodIn wsX7_nearestHead (wsV RX7 129 RX7 yX7_seedIs wsX7_seedIs) := goodIn_app (goodIn_of _ (by decide +kernel)) ggX7_nearestHead_X7_seedIs
set_option maxRecDepth 20000 in
theorem ggX7_nearestHead_X7_isAlive : GoodIn wsX7_nearestHead wsX7_isAlive := goodIn_r _ [13, 14, 2, 3, 4, 5, 6, 1, 7, 8, 9, 22, 23, 24, 25, 26, 27, 28, 29, 30, 31, 32, 33, 34, 35, 36, 37, 38, 39, 40, 41, 42, 43, 44, 45, 46, 47, 48] (by decide +kernel) (by decide +kernel)
set_option maxRecDepth 20000 in
theorem gX7_nearestHead_X7_isAlive : GoodIn wsX7_nearestHead (wsV RX7 164 RX7 yX7_isAlive wsX7_isAlive) := goodIn_app (goodIn_of _ (by decide +kernel)) ggX7_nearestHead_X7_isAlive
set_option maxRecDepth 20000 in
theorem ggX7_nearestHead_X7_apartOf : GoodIn wsX7_nearestHead wsX7_apartOf := goodIn_r _ [17, 18, 19, 20, 21] (by decide +kernel) (by decide +kernel)
set_option maxRecDepth 20000 in
theorem gX7_nearestHead_X7_apartOf : GoodIn wsX7_nearestHead (va_wsS RX7 161 yX7_apartOf wsX7_apartOf) := goodIn_app (goodIn_of _ (by decide +kernel)) ggX7_nearestHead_X7_apartOf
theorem dX7_nearestHead_0 : decode cX7_nearestHead 0 = .ok (.aload_n 0, 1) := by decide +kernel
theorem dX7_nearestHead_1 : decode cX7_nearestHead 1 = .ok (.iload_n 1, 1) := by decide +kernel
theorem dX7_nearestHead_2 : decode cX7_nearestHead 2 = .ok (.iconst 1, 1) := by decide +kernel
theorem dX7_nearestHead_3 : decode cX7_nearestHead 3 = .ok (.invokevirtual 129, 3) := by decide +kernel
theorem dX7_nearestHead_6 : decode cX7_nearestHead 6 = .ok (.istore_n 2, 1) := by decide +kernel
theorem dX7_nearestHead_7 : decode cX7_nearestHead 7 = .ok (.iconst (-1), 1) := by decide +kernel
theorem dX7_nearestHead_8 : decode cX7_nearestHead 8 = .ok (.istore_n 3, 1) := by decide +kernel
theorem dX7_nearestHead_9 : decode cX7_nearestHead 9 = .ok (.iconst 0, 1) := by decide +kernel
theorem dX7_nearestHead_10 : decode cX7_nearestHead 10 = .ok (.istore 4, 2) := by decide +kernel
theorem dX7_nearestHead_12 : decode cX7_nearestHead 12 = .ok (.iload 4, 2) := by decide +kernel
theorem dX7_nearestHead_14 : decode cX7_nearestHead 14 = .ok (.aload_n 0, 1) := by decide +kernel
theorem dX7_nearestHead_15 : decode cX7_nearestHead 15 = .ok (.getfield 9, 3) := by decide +kernel
theorem dX7_nearestHead_18 : decode cX7_nearestHead 18 = .ok (.iconst 1, 1) := by decide +kernel
theorem dX7_nearestHead_19 : decode cX7_nearestHead 19 = .ok (.iaload, 1) := by decide +kernel
theorem dX7_nearestHead_20 : decode cX7_nearestHead 20 = .ok (.if_icmp .ge 70, 3) := by decide +kernel
theorem dX7_nearestHead_23 : decode cX7_nearestHead 23 = .ok (.aload_n 0, 1) := by decide +kernel
theorem dX7_nearestHead_24 : decode cX7_nearestHead 24 = .ok (.iload 4, 2) := by decide +kernel
theorem dX7_nearestHead_26 : decode cX7_nearestHead 26 = .ok (.iconst 1, 1) := by decide +kernel
theorem dX7_nearestHead_27 : decode cX7_nearestHead 27 = .ok (.invokevirtual 129, 3) := by decide +kernel
theorem dX7_nearestHead_30 : decode cX7_nearestHead 30 = .ok (.istore 5, 2) := by decide +kernel
theorem dX7_nearestHead_32 : decode cX7_nearestHead 32 = .ok (.iload 5, 2) := by decide +kernel
theorem dX7_nearestHead_34 : decode cX7_nearestHead 34 = .ok (.iload_n 2, 1) := by decide +kernel
theorem dX7_nearestHead_35 : decode cX7_nearestHead 35 = .ok (.if_icmp .eq 16, 3) := by decide +kernel
theorem dX7_nearestHead_38 : decode cX7_nearestHead 38 = .ok (.aload_n 0, 1) := by decide +kernel
theorem dX7_nearestHead_39 : decode cX7_nearestHead 39 = .ok (.iload 4, 2) := by decide +kernel
theorem dX7_nearestHead_41 : decode cX7_nearestHead 41 = .ok (.invokevirtual 164, 3) := by decide +kernel
theorem dX7_nearestHead_44 : decode cX7_nearestHead 44 = .ok (.ifCond .eq 7, 3) := by decide +kernel
theorem dX7_nearestHead_47 : decode cX7_nearestHead 47 = .ok (.iconst 1, 1) := by decide +kernel
theorem dX7_nearestHead_48 : decode cX7_nearestHead 48 = .ok (.goto 4, 3) := by decide +kernel
theorem dX7_nearestHead_51 : decode cX7_nearestHead 51 = .ok (.iconst 0, 1) := by decide +kernel
theorem dX7_nearestHead_52 : decode cX7_nearestHead 52 = .ok (.istore 6, 2) := by decide +kernel
theorem dX7_nearestHead_54 : decode cX7_nearestHead 54 = .ok (.iload 6, 2) := by decide +kernel
theorem dX7_nearestHead_56 : decode cX7_nearestHead 56 = .ok (.ifCond .eq 26, 3) := by decide +kernel
theorem dX7_nearestHead_59 : decode cX7_nearestHead 59 = .ok (.iload_n 3, 1) := by decide +kernel
theorem dX7_nearestHead_60 : decode cX7_nearestHead 60 = .ok (.ifCond .lt 17, 3) := by decide +kernel
theorem dX7_nearestHead_63 : decode cX7_nearestHead 63 = .ok (.iload_n 2, 1) := by decide +kernel
theorem dX7_nearestHead_64 : decode cX7_nearestHead 64 = .ok (.iload 5, 2) := by decide +kernel
theorem dX7_nearestHead_66 : decode cX7_nearestHead 66 = .ok (.invokestatic 161, 3) := by decide +kernel
theorem dX7_nearestHead_69 : decode cX7_nearestHead 69 = .ok (.iload_n 2, 1) := by decide +kernel
theorem dX7_nearestHead_70 : decode cX7_nearestHead 70 = .ok (.iload_n 3, 1) := by decide +kernel
theorem dX7_nearestHead_71 : decode cX7_nearestHead 71 = .ok (.invokestatic 161, 3) := by decide +kernel
theorem dX7_nearestHead_74 : decode cX7_nearestHead 74 = .ok (.if_icmp .ge 8, 3) := by decide +kernel
theorem dX7_nearestHead_77 : decode cX7_nearestHead 77 = .ok (.iload 5, 2) := by decide +kernel
theorem dX7_nearestHead_79 : decode cX7_nearestHead 79 = .ok (.goto 4, 3) := by decide +kernel
theorem dX7_nearestHead_82 : decode cX7_nearestHead 82 = .ok (.iload_n 3, 1) := by decide +kernel
theorem dX7_nearestHead_83 : decode cX7_nearestHead 83 = .ok (.istore_n 3, 1) := by decide +kernel
theorem dX7_nearestHead_84 : decode cX7_nearestHead 84 = .ok (.iinc 4 1, 3) := by decide +kernel
theorem dX7_nearestHead_87 : decode cX7_nearestHead 87 = .ok (.goto (-75), 3) := by decide +kernel
theorem dX7_nearestHead_90 : decode cX7_nearestHead 90 = .ok (.iload_n 3, 1) := by decide +kernel
theorem dX7_nearestHead_91 : decode cX7_nearestHead 91 = .ok (.ireturn, 1) := by decide +kernel
set_option maxRecDepth 20000 in
theorem ggX7_bulbTurn_X7_seedIs : GoodIn wsX7_bulbTurn wsX7_seedIs := goodIn_r _ [5, 6, 7, 8, 4, 9, 27, 28, 29, 30, 31, 32, 33, 34, 35, 36, 37, 38, 39, 40, 41, 42, 43, 44, 45, 46, 47, 48, 49, 50, 51, 52, 53] (by decide +kernel) (by decide +kernel)
set_option maxRecDepth 20000 in
theorem gX7_bulbTurn_X7_seedIs : GoodIn wsX7_bulbTurn (wsV RX7 129 RX7 yX7_seedIs wsX7_seedIs) := goodIn_app (goodIn_of _ (by decide +kernel)) ggX7_bulbTurn_X7_seedIs
set_option maxRecDepth 20000 in
theorem ggX7_bulbTurn_X7_nearestWater : GoodIn wsX7_bulbTurn wsX7_nearestWater := goodIn_r _ [13, 6, 14, 15, 4, 16, 17, 18, 19, 20, 27, 28, 29, 30, 31, 32, 33, 34, 35, 36, 37, 38, 39, 40, 41, 42, 43, 44, 45, 46, 47, 48, 49, 50, 51, 52, 53] (by decide +kernel) (by decide +kernel)
set_option maxRecDepth 20000 in
theorem gX7_bulbTurn_X7_nearestWater : GoodIn wsX7_bulbTurn (wsV RX7 167 RX7 yX7_nearestWater wsX7_nearestWater) := goodIn_app (goodIn_of _ (by decide +kernel)) ggX7_bulbTurn_X7_nearestWater
set_option maxRecDepth 20000 in
theorem ggX7_bulbTurn_X7_toward : GoodIn wsX7_bulbTurn wsX7_toward := goodIn_r _ [23, 24, 25, 4, 26, 14, 15, 16, 17, 18, 19, 20] (by decide +kernel) (by decide +kernel)
set_option maxRecDepth 20000 in
theorem gX7_bulbTurn_X7_toward : GoodIn wsX7_bulbTurn (va_wsS RX7 170 yX7_toward wsX7_toward) := goodIn_app (goodIn_of _ (by decide +kernel)) ggX7_bulbTurn_X7_toward
theorem dX7_bulbTurn_0 : decode cX7_bulbTurn 0 = .ok (.aload_n 0, 1) := by decide +kernel
theorem dX7_bulbTurn_1 : decode cX7_bulbTurn 1 = .ok (.iload_n 1, 1) := by decide +kernel
theorem dX7_bulbTurn_2 : decode cX7_bulbTurn 2 = .ok (.iconst 1, 1) := by decide +kernel
theorem dX7_bulbTurn_3 : decode cX7_bulbTurn 3 = .ok (.invokevirtual 129, 3) := by decide +kernel
theorem dX7_bulbTurn_6 : decode cX7_bulbTurn 6 = .ok (.istore_n 2, 1) := by decide +kernel
theorem dX7_bulbTurn_7 : decode cX7_bulbTurn 7 = .ok (.aload_n 0, 1) := by decide +kernel
theorem dX7_bulbTurn_8 : decode cX7_bulbTurn 8 = .ok (.iload_n 2, 1) := by decide +kernel
theorem dX7_bulbTurn_9 : decode cX7_bulbTurn 9 = .ok (.invokevirtual 167, 3) := by decide +kernel
theorem dX7_bulbTurn_12 : decode cX7_bulbTurn 12 = .ok (.istore_n 3, 1) := by decide +kernel
theorem dX7_bulbTurn_13 : decode cX7_bulbTurn 13 = .ok (.iload_n 3, 1) := by decide +kernel
theorem dX7_bulbTurn_14 : decode cX7_bulbTurn 14 = .ok (.ifCond .lt 8, 3) := by decide +kernel
theorem dX7_bulbTurn_17 : decode cX7_bulbTurn 17 = .ok (.iload_n 3, 1) := by decide +kernel
theorem dX7_bulbTurn_18 : decode cX7_bulbTurn 18 = .ok (.iload_n 2, 1) := by decide +kernel
theorem dX7_bulbTurn_19 : decode cX7_bulbTurn 19 = .ok (.if_icmp .ne 12, 3) := by decide +kernel
theorem dX7_bulbTurn_22 : decode cX7_bulbTurn 22 = .ok (.aload_n 0, 1) := by decide +kernel
theorem dX7_bulbTurn_23 : decode cX7_bulbTurn 23 = .ok (.iload_n 1, 1) := by decide +kernel
theorem dX7_bulbTurn_24 : decode cX7_bulbTurn 24 = .ok (.iconst 2, 1) := by decide +kernel
theorem dX7_bulbTurn_25 : decode cX7_bulbTurn 25 = .ok (.invokevirtual 129, 3) := by decide +kernel
theorem dX7_bulbTurn_28 : decode cX7_bulbTurn 28 = .ok (.goto 8, 3) := by decide +kernel
theorem dX7_bulbTurn_31 : decode cX7_bulbTurn 31 = .ok (.iload_n 2, 1) := by decide +kernel
theorem dX7_bulbTurn_32 : decode cX7_bulbTurn 32 = .ok (.iload_n 3, 1) := by decide +kernel
theorem dX7_bulbTurn_33 : decode cX7_bulbTurn 33 = .ok (.invokestatic 170, 3) := by decide +kernel
theorem dX7_bulbTurn_36 : decode cX7_bulbTurn 36 = .ok (.ireturn, 1) := by decide +kernel
set_option maxRecDepth 20000 in
theorem ggX7_runnerTurn_X7_nearestHead : GoodIn wsX7_runnerTurn wsX7_nearestHead := goodIn_r _ [5, 6, 7, 8, 9, 4, 10, 11, 12, 13, 14, 15, 16, 17, 18, 19, 20, 21, 22, 23, 24, 25, 40, 41, 42, 43, 44, 45, 46, 47, 48, 49, 50, 51, 52, 53, 54, 55, 56, 57, 58, 59, 60, 61, 62, 63, 64, 65, 66] (by decide +kernel) (by decide +kernel)
set_option maxRecDepth 20000 in
theorem gX7_runnerTurn_X7_nearestHead : GoodIn wsX7_runnerTurn (wsV RX7 173 RX7 yX7_nearestHead wsX7_nearestHead) := goodIn_app (goodIn_of _ (by decide +kernel)) ggX7_runnerTurn_X7_nearestHead
set_option maxRecDepth 20000 in
theorem ggX7_runnerTurn_X7_bulbTurn : GoodIn wsX7_runnerTurn wsX7_bulbTurn := goodIn_r _ [29, 7, 8, 9, 4, 10, 6, 11, 12, 13, 30, 31, 32, 33, 19, 20, 21, 22, 23, 24, 25, 34, 35, 36, 37, 38, 39, 40, 41, 42, 43, 44, 45, 46, 47, 48, 49, 50, 51, 52, 53, 54, 55, 56, 57, 58, 59, 60, 61, 62, 63, 64, 65, 66] (by decide +kernel) (by decide +kernel)
set_option maxRecDepth 20000 in
theorem gX7_runnerTurn_X7_bulbTurn : GoodIn wsX7_runnerTurn (wsV RX7 176 RX7 yX7_bulbTurn wsX7_bulbTurn) := goodIn_app (goodIn_of _ (by decide +kernel)) ggX7_runnerTurn_X7_bulbTurn
set_option maxRecDepth 20000 in
theorem ggX7_runnerTurn_X7_seedIs : GoodIn wsX7_runnerTurn wsX7_seedIs := goodIn_r _ [10, 6, 11, 12, 4, 13, 40, 41, 42, 43, 44, 45, 46, 47, 48, 49, 50, 51, 52, 53, 54, 55, 56, 57, 58, 59, 60, 61, 62, 63, 64, 65, 66] (by decide +kernel) (by decide +kernel)
set_option maxRecDepth 20000 in
theorem gX7_runnerTurn_X7_seedIs : GoodIn wsX7_runnerTurn (wsV RX7 129 RX7 yX7_seedIs wsX7_seedIs) := goodIn_app (goodIn_of _ (by decide +kernel)) ggX7_runnerTurn_X7_seedIs
set_option maxRecDepth 20000 in
theorem ggX7_runnerTurn_X7_toward : GoodIn wsX7_runnerTurn wsX7_toward := goodIn_r _ [36, 37, 38, 4, 39, 19, 20, 21, 22, 23, 24, 25] (by decide +kernel) (by decide +kernel)
set_option maxRecDepth 20000 in
theorem gX7_runnerTurn_X7_toward : GoodIn wsX7_runnerTurn (va_wsS RX7 170 yX7_toward wsX7_toward) := goodIn_app (goodIn_of _ (by decide +kernel)) ggX7_runnerTurn_X7_toward
theorem dX7_runnerTurn_0 : decode cX7_runnerTurn 0 = .ok (.aload_n 0, 1) := by decide +kernel
theorem dX7_runnerTurn_1 : decode cX7_runnerTurn 1 = .ok (.iload_n 1, 1) := by decide +kernel
theorem dX7_runnerTurn_2 : decode cX7_runnerTurn 2 = .ok (.invokevirtual 173, 3) := by decide +kernel
theorem dX7_runnerTurn_5 : decode cX7_runnerTurn 5 = .ok (.istore_n 2, 1) := by decide +kernel
theorem dX7_runnerTurn_6 : decode cX7_runnerTurn 6 = .ok (.iload_n 2, 1) := by decide +kernel
theorem dX7_runnerTurn_7 : decode cX7_runnerTurn 7 = .ok (.ifCond .ge 11, 3) := by decide +kernel
theorem dX7_runnerTurn_10 : decode cX7_runnerTurn 10 = .ok (.aload_n 0, 1) := by decide +kernel
theorem dX7_runnerTurn_11 : decode cX7_runnerTurn 11 = .ok (.iload_n 1, 1) := by decide +kernel
theorem dX7_runnerTurn_12 : decode cX7_runnerTurn 12 = .ok (.invokevirtual 176, 3) := by decide +kernel
theorem dX7_runnerTurn_15 : decode cX7_runnerTurn 15 = .ok (.goto 13, 3) := by decide +kernel
theorem dX7_runnerTurn_18 : decode cX7_runnerTurn 18 = .ok (.aload_n 0, 1) := by decide +kernel
theorem dX7_runnerTurn_19 : decode cX7_runnerTurn 19 = .ok (.iload_n 1, 1) := by decide +kernel
theorem dX7_runnerTurn_20 : decode cX7_runnerTurn 20 = .ok (.iconst 1, 1) := by decide +kernel
theorem dX7_runnerTurn_21 : decode cX7_runnerTurn 21 = .ok (.invokevirtual 129, 3) := by decide +kernel
theorem dX7_runnerTurn_24 : decode cX7_runnerTurn 24 = .ok (.iload_n 2, 1) := by decide +kernel
theorem dX7_runnerTurn_25 : decode cX7_runnerTurn 25 = .ok (.invokestatic 170, 3) := by decide +kernel
theorem dX7_runnerTurn_28 : decode cX7_runnerTurn 28 = .ok (.ireturn, 1) := by decide +kernel
set_option maxRecDepth 20000 in
theorem ggX7_turnOf_X7_seedIs : GoodIn wsX7_turnOf wsX7_seedIs := goodIn_r _ [6, 1, 7, 8, 5, 9, 44, 45, 46, 47, 48, 49, 50, 51, 52, 53, 54, 55, 56, 57, 58, 59, 60, 61, 62, 63, 64, 65, 66, 67, 68, 69, 70] (by decide +kernel) (by decide +kernel)
set_option maxRecDepth 20000 in
theorem gX7_turnOf_X7_seedIs : GoodIn wsX7_turnOf (wsV RX7 129 RX7 yX7_seedIs wsX7_seedIs) := goodIn_app (goodIn_of _ (by decide +kernel)) ggX7_turnOf_X7_seedIs
set_option maxRecDepth 20000 in
theorem ggX7_turnOf_X7_bulbTurn : GoodIn wsX7_turnOf wsX7_bulbTurn := goodIn_r _ [13, 2, 3, 4, 5, 6, 1, 7, 8, 9, 14, 15, 16, 17, 18, 19, 20, 21, 22, 23, 24, 25, 26, 27, 28, 29, 30, 44, 45, 46, 47, 48, 49, 50, 51, 52, 53, 54, 55, 56, 57, 58, 59, 60, 61, 62, 63, 64, 65, 66, 67, 68, 69, 70] (by decide +kernel) (by decide +kernel)
set_option maxRecDepth 20000 in
theorem gX7_turnOf_X7_bulbTurn : GoodIn wsX7_turnOf (wsV RX7 176 RX7 yX7_bulbTurn wsX7_bulbTurn) := goodIn_app (goodIn_of _ (by decide +kernel)) ggX7_turnOf_X7_bulbTurn
set_option maxRecDepth 20000 in
theorem ggX7_turnOf_X7_runnerTurn : GoodIn wsX7_turnOf wsX7_runnerTurn := goodIn_r _ [34, 35, 36, 37, 5, 38, 1, 2, 3, 4, 6, 7, 8, 9, 39, 40, 41, 42, 43, 18, 19, 20, 21, 22, 23, 24, 10, 11, 12, 13, 14, 15, 16, 17, 25, 26, 27, 28, 29, 30, 44, 45, 46, 47, 48, 49, 50, 51, 52, 53, 54, 55, 56, 57, 58, 59, 60, 61, 62, 63, 64, 65, 66, 67, 68, 69, 70] (by decide +kernel) (by decide +kernel)
set_option maxRecDepth 20000 in
theorem gX7_turnOf_X7_runnerTurn : GoodIn wsX7_turnOf (wsV RX7 179 RX7 yX7_runnerTurn wsX7_runnerTurn) := goodIn_app (goodIn_of _ (by decide +kernel)) ggX7_turnOf_X7_runnerTurn
theorem dX7_turnOf_0 : decode cX7_turnOf 0 = .ok (.aload_n 0, 1) := by decide +kernel
theorem dX7_turnOf_1 : decode cX7_turnOf 1 = .ok (.iload_n 1, 1) := by decide +kernel
theorem dX7_turnOf_2 : decode cX7_turnOf 2 = .ok (.iconst 0, 1) := by decide +kernel
theorem dX7_turnOf_3 : decode cX7_turnOf 3 = .ok (.invokevirtual 129, 3) := by decide +kernel
theorem dX7_turnOf_6 : decode cX7_turnOf 6 = .ok (.tableswitch 92 2 6 #[34, 40, 46, 63, 74], 34) := by decide +kernel
theorem dX7_turnOf_40 : decode cX7_turnOf 40 = .ok (.aload_n 0, 1) := by decide +kernel
theorem dX7_turnOf_41 : decode cX7_turnOf 41 = .ok (.iload_n 1, 1) := by decide +kernel
theorem dX7_turnOf_42 : decode cX7_turnOf 42 = .ok (.invokevirtual 176, 3) := by decide +kernel
theorem dX7_turnOf_45 : decode cX7_turnOf 45 = .ok (.ireturn, 1) := by decide +kernel
theorem dX7_turnOf_46 : decode cX7_turnOf 46 = .ok (.aload_n 0, 1) := by decide +kernel
theorem dX7_turnOf_47 : decode cX7_turnOf 47 = .ok (.iload_n 1, 1) := by decide +kernel
theorem dX7_turnOf_48 : decode cX7_turnOf 48 = .ok (.invokevirtual 179, 3) := by decide +kernel
theorem dX7_turnOf_51 : decode cX7_turnOf 51 = .ok (.ireturn, 1) := by decide +kernel
theorem dX7_turnOf_52 : decode cX7_turnOf 52 = .ok (.aload_n 0, 1) := by decide +kernel
theorem dX7_turnOf_53 : decode cX7_turnOf 53 = .ok (.iload_n 1, 1) := by decide +kernel
theorem dX7_turnOf_54 : decode cX7_turnOf 54 = .ok (.invokevirtual 179, 3) := by decide +kernel
theorem dX7_turnOf_57 : decode cX7_turnOf 57 = .ok (.aload_n 0, 1) := by decide +kernel
theorem dX7_turnOf_58 : decode cX7_turnOf 58 = .ok (.getfield 9, 3) := by decide +kernel
theorem dX7_turnOf_61 : decode cX7_turnOf 61 = .ok (.iconst 0, 1) := by decide +kernel
theorem dX7_turnOf_62 : decode cX7_turnOf 62 = .ok (.iaload, 1) := by decide +kernel
theorem dX7_turnOf_63 : decode cX7_turnOf 63 = .ok (.iconst 2, 1) := by decide +kernel
theorem dX7_turnOf_64 : decode cX7_turnOf 64 = .ok (.irem, 1) := by decide +kernel
theorem dX7_turnOf_65 : decode cX7_turnOf 65 = .ok (.iadd, 1) := by decide +kernel
theorem dX7_turnOf_66 : decode cX7_turnOf 66 = .ok (.iconst 4, 1) := by decide +kernel
theorem dX7_turnOf_67 : decode cX7_turnOf 67 = .ok (.irem, 1) := by decide +kernel
theorem dX7_turnOf_68 : decode cX7_turnOf 68 = .ok (.ireturn, 1) := by decide +kernel
theorem dX7_turnOf_69 : decode cX7_turnOf 69 = .ok (.aload_n 0, 1) := by decide +kernel
theorem dX7_turnOf_70 : decode cX7_turnOf 70 = .ok (.iload_n 1, 1) := by decide +kernel
theorem dX7_turnOf_71 : decode cX7_turnOf 71 = .ok (.iconst 2, 1) := by decide +kernel
theorem dX7_turnOf_72 : decode cX7_turnOf 72 = .ok (.invokevirtual 129, 3) := by decide +kernel
theorem dX7_turnOf_75 : decode cX7_turnOf 75 = .ok (.iconst 1, 1) := by decide +kernel
theorem dX7_turnOf_76 : decode cX7_turnOf 76 = .ok (.iadd, 1) := by decide +kernel
theorem dX7_turnOf_77 : decode cX7_turnOf 77 = .ok (.iconst 4, 1) := by decide +kernel
theorem dX7_turnOf_78 : decode cX7_turnOf 78 = .ok (.irem, 1) := by decide +kernel
theorem dX7_turnOf_79 : decode cX7_turnOf 79 = .ok (.ireturn, 1) := by decide +kernel
theorem dX7_turnOf_80 : decode cX7_turnOf 80 = .ok (.aload_n 0, 1) := by decide +kernel
theorem dX7_turnOf_81 : decode cX7_turnOf 81 = .ok (.iload_n 1, 1) := by decide +kernel
theorem dX7_turnOf_82 : decode cX7_turnOf 82 = .ok (.iconst 2, 1) := by decide +kernel
theorem dX7_turnOf_83 : decode cX7_turnOf 83 = .ok (.invokevirtual 129, 3) := by decide +kernel
theorem dX7_turnOf_86 : decode cX7_turnOf 86 = .ok (.aload_n 0, 1) := by decide +kernel
theorem dX7_turnOf_87 : decode cX7_turnOf 87 = .ok (.iload_n 1, 1) := by decide +kernel
theorem dX7_turnOf_88 : decode cX7_turnOf 88 = .ok (.iconst 3, 1) := by decide +kernel
theorem dX7_turnOf_89 : decode cX7_turnOf 89 = .ok (.invokevirtual 129, 3) := by decide +kernel
theorem dX7_turnOf_92 : decode cX7_turnOf 92 = .ok (.iconst 2, 1) := by decide +kernel
theorem dX7_turnOf_93 : decode cX7_turnOf 93 = .ok (.irem, 1) := by decide +kernel
theorem dX7_turnOf_94 : decode cX7_turnOf 94 = .ok (.iadd, 1) := by decide +kernel
theorem dX7_turnOf_95 : decode cX7_turnOf 95 = .ok (.iconst 4, 1) := by decide +kernel
theorem dX7_turnOf_96 : decode cX7_turnOf 96 = .ok (.irem, 1) := by decide +kernel
theorem dX7_turnOf_97 : decode cX7_turnOf 97 = .ok (.ireturn, 1) := by decide +kernel
theorem dX7_turnOf_98 : decode cX7_turnOf 98 = .ok (.aload_n 0, 1) := by decide +kernel
theorem dX7_turnOf_99 : decode cX7_turnOf 99 = .ok (.iload_n 1, 1) := by decide +kernel
theorem dX7_turnOf_100 : decode cX7_turnOf 100 = .ok (.iconst 2, 1) := by decide +kernel
theorem dX7_turnOf_101 : decode cX7_turnOf 101 = .ok (.invokevirtual 129, 3) := by decide +kernel
theorem dX7_turnOf_104 : decode cX7_turnOf 104 = .ok (.ireturn, 1) := by decide +kernel
set_option maxRecDepth 20000 in
theorem ggX7_of_X7_isSeed : GoodIn wsX7_of wsX7_isSeed := goodIn_r _ [8, 9, 10, 11, 7, 12, 62, 63, 64, 65, 66, 67, 68, 69, 70, 71, 72, 73, 74, 75, 76, 77, 78, 79, 80, 81, 82, 83, 84, 85, 86, 87, 88] (by decide +kernel) (by decide +kernel)
set_option maxRecDepth 20000 in
theorem gX7_of_X7_isSeed : GoodIn wsX7_of (wsV RX7 182 RX7 yX7_isSeed wsX7_isSeed) := goodIn_app (goodIn_of _ (by decide +kernel)) ggX7_of_X7_isSeed
set_option maxRecDepth 20000 in
theorem ggX7_of_X7_within : GoodIn wsX7_of wsX7_within := goodIn_r _ [12] (by decide +kernel) (by decide +kernel)
set_option maxRecDepth 20000 in
theorem gX7_of_X7_within : GoodIn wsX7_of (va_wsS RX7 105 yX7_within wsX7_within) := goodIn_app (goodIn_of _ (by decide +kernel)) ggX7_of_X7_within
set_option maxRecDepth 20000 in
theorem ggX7_of_X7_finding : GoodIn wsX7_of wsX7_finding := goodIn_r _ [16, 17, 1, 62, 63, 64, 65, 66, 67, 68, 69, 70, 71, 72, 73, 74, 75, 76, 77, 78, 79, 80, 81, 82, 83, 84, 85, 86, 87, 88] (by decide +kernel) (by decide +kernel)
set_option maxRecDepth 20000 in
theorem gX7_of_X7_finding : GoodIn wsX7_of (wsV RX7 101 RX7 yX7_finding wsX7_finding) := goodIn_app (goodIn_of _ (by decide +kernel)) ggX7_of_X7_finding
set_option maxRecDepth 20000 in
theorem ggX7_of_X7_seedIs : GoodIn wsX7_of wsX7_seedIs := goodIn_r _ [21, 9, 22, 23, 7, 24, 62, 63, 64, 65, 66, 67, 68, 69, 70, 71, 72, 73, 74, 75, 76, 77, 78, 79, 80, 81, 82, 83, 84, 85, 86, 87, 88] (by decide +kernel) (by decide +kernel)
set_option maxRecDepth 20000 in
theorem gX7_of_X7_seedIs : GoodIn wsX7_of (wsV RX7 129 RX7 yX7_seedIs wsX7_seedIs) := goodIn_app (goodIn_of _ (by decide +kernel)) ggX7_of_X7_seedIs
set_option maxRecDepth 20000 in
theorem ggX7_of_X7_turnOf : GoodIn wsX7_of wsX7_turnOf := goodIn_r _ [28, 9, 18, 19, 20, 7, 21, 22, 23, 24, 29, 30, 31, 32, 33, 34, 35, 36, 37, 38, 39, 40, 41, 42, 43, 44, 45, 46, 47, 48, 49, 50, 51, 52, 53, 54, 55, 56, 57, 58, 59, 60, 61, 2, 62, 63, 64, 65, 66, 67, 68, 69, 70, 71, 72, 73, 74, 75, 76, 77, 78, 79, 80, 81, 82, 83, 84, 85, 86, 87, 88] (by decide +kernel) (by decide +kernel)
set_option maxRecDepth 20000 in
theorem gX7_of_X7_turnOf : GoodIn wsX7_of (wsV RX7 185 RX7 yX7_turnOf wsX7_turnOf) := goodIn_app (goodIn_of _ (by decide +kernel)) ggX7_of_X7_turnOf
set_option maxRecDepth 20000 in
theorem ggX7_of_X7_isAlive : GoodIn wsX7_of wsX7_isAlive := goodIn_r _ [61, 2, 18, 19, 20, 7, 21, 9, 22, 23, 24, 62, 63, 64, 65, 66, 67, 68, 69, 70, 71, 72, 73, 74, 75, 76, 77, 78, 79, 80, 81, 82, 83, 84, 85, 86, 87, 88] (by decide +kernel) (by decide +kernel)
set_option maxRecDepth 20000 in
theorem gX7_of_X7_isAlive : GoodIn wsX7_of (wsV RX7 164 RX7 yX7_isAlive wsX7_isAlive) := goodIn_app (goodIn_of _ (by decide +kernel)) ggX7_of_X7_isAlive
theorem dX7_of_0 : decode cX7_of 0 = .ok (.aload_n 0, 1) := by decide +kernel
theorem dX7_of_1 : decode cX7_of 1 = .ok (.iload_n 1, 1) := by decide +kernel
theorem dX7_of_2 : decode cX7_of 2 = .ok (.invokevirtual 182, 3) := by decide +kernel
theorem dX7_of_5 : decode cX7_of 5 = .ok (.ifCond .eq 13, 3) := by decide +kernel
theorem dX7_of_8 : decode cX7_of 8 = .ok (.iload_n 2, 1) := by decide +kernel
theorem dX7_of_9 : decode cX7_of 9 = .ok (.iconst 0, 1) := by decide +kernel
theorem dX7_of_10 : decode cX7_of 10 = .ok (.bipush 7, 2) := by decide +kernel
theorem dX7_of_12 : decode cX7_of 12 = .ok (.invokestatic 105, 3) := by decide +kernel
theorem dX7_of_15 : decode cX7_of 15 = .ok (.ifCond .ne 10, 3) := by decide +kernel
theorem dX7_of_18 : decode cX7_of 18 = .ok (.aload_n 0, 1) := by decide +kernel
theorem dX7_of_19 : decode cX7_of 19 = .ok (.ldc 95, 2) := by decide +kernel
theorem dX7_of_21 : decode cX7_of 21 = .ok (.invokevirtual 101, 3) := by decide +kernel
theorem dX7_of_24 : decode cX7_of 24 = .ok (.ireturn, 1) := by decide +kernel
theorem dX7_of_25 : decode cX7_of 25 = .ok (.iload_n 2, 1) := by decide +kernel
theorem dX7_of_26 : decode cX7_of 26 = .ok (.tableswitch 74 4 7 #[30, 42, 54, 60], 30) := by decide +kernel
theorem dX7_of_56 : decode cX7_of 56 = .ok (.aload_n 0, 1) := by decide +kernel
theorem dX7_of_57 : decode cX7_of 57 = .ok (.getfield 28, 3) := by decide +kernel
theorem dX7_of_60 : decode cX7_of 60 = .ok (.aload_n 0, 1) := by decide +kernel
theorem dX7_of_61 : decode cX7_of 61 = .ok (.iload_n 1, 1) := by decide +kernel
theorem dX7_of_62 : decode cX7_of 62 = .ok (.iconst 0, 1) := by decide +kernel
theorem dX7_of_63 : decode cX7_of 63 = .ok (.invokevirtual 129, 3) := by decide +kernel
theorem dX7_of_66 : decode cX7_of 66 = .ok (.iaload, 1) := by decide +kernel
theorem dX7_of_67 : decode cX7_of 67 = .ok (.ireturn, 1) := by decide +kernel
theorem dX7_of_68 : decode cX7_of 68 = .ok (.aload_n 0, 1) := by decide +kernel
theorem dX7_of_69 : decode cX7_of 69 = .ok (.getfield 31, 3) := by decide +kernel
theorem dX7_of_72 : decode cX7_of 72 = .ok (.aload_n 0, 1) := by decide +kernel
theorem dX7_of_73 : decode cX7_of 73 = .ok (.iload_n 1, 1) := by decide +kernel
theorem dX7_of_74 : decode cX7_of 74 = .ok (.iconst 0, 1) := by decide +kernel
theorem dX7_of_75 : decode cX7_of 75 = .ok (.invokevirtual 129, 3) := by decide +kernel
theorem dX7_of_78 : decode cX7_of 78 = .ok (.iaload, 1) := by decide +kernel
theorem dX7_of_79 : decode cX7_of 79 = .ok (.ireturn, 1) := by decide +kernel
theorem dX7_of_80 : decode cX7_of 80 = .ok (.aload_n 0, 1) := by decide +kernel
theorem dX7_of_81 : decode cX7_of 81 = .ok (.iload_n 1, 1) := by decide +kernel
theorem dX7_of_82 : decode cX7_of 82 = .ok (.invokevirtual 185, 3) := by decide +kernel
theorem dX7_of_85 : decode cX7_of 85 = .ok (.ireturn, 1) := by decide +kernel
theorem dX7_of_86 : decode cX7_of 86 = .ok (.aload_n 0, 1) := by decide +kernel
theorem dX7_of_87 : decode cX7_of 87 = .ok (.iload_n 1, 1) := by decide +kernel
theorem dX7_of_88 : decode cX7_of 88 = .ok (.invokevirtual 164, 3) := by decide +kernel
theorem dX7_of_91 : decode cX7_of 91 = .ok (.ifCond .eq 7, 3) := by decide +kernel
theorem dX7_of_94 : decode cX7_of 94 = .ok (.iconst 1, 1) := by decide +kernel
theorem dX7_of_95 : decode cX7_of 95 = .ok (.goto 4, 3) := by decide +kernel
theorem dX7_of_98 : decode cX7_of 98 = .ok (.iconst 0, 1) := by decide +kernel
theorem dX7_of_99 : decode cX7_of 99 = .ok (.ireturn, 1) := by decide +kernel
theorem dX7_of_100 : decode cX7_of 100 = .ok (.aload_n 0, 1) := by decide +kernel
theorem dX7_of_101 : decode cX7_of 101 = .ok (.iload_n 1, 1) := by decide +kernel
theorem dX7_of_102 : decode cX7_of 102 = .ok (.iload_n 2, 1) := by decide +kernel
theorem dX7_of_103 : decode cX7_of 103 = .ok (.invokevirtual 129, 3) := by decide +kernel
theorem dX7_of_106 : decode cX7_of 106 = .ok (.ireturn, 1) := by decide +kernel
set_option maxRecDepth 20000 in
theorem ggX7_mayBe_X7_isKind : GoodIn wsX7_mayBe wsX7_isKind := goodIn_r _ [4, 5, 6, 3, 7] (by decide +kernel) (by decide +kernel)
set_option maxRecDepth 20000 in
theorem gX7_mayBe_X7_isKind : GoodIn wsX7_mayBe (va_wsS RX7 145 yX7_isKind wsX7_isKind) := goodIn_app (goodIn_of _ (by decide +kernel)) ggX7_mayBe_X7_isKind
set_option maxRecDepth 20000 in
theorem ggX7_mayBe_X7_isCell : GoodIn wsX7_mayBe wsX7_isCell := goodIn_r _ [10, 5, 6, 3, 7] (by decide +kernel) (by decide +kernel)
set_option maxRecDepth 20000 in
theorem gX7_mayBe_X7_isCell : GoodIn wsX7_mayBe (va_wsS RX7 116 yX7_isCell wsX7_isCell) := goodIn_app (goodIn_of _ (by decide +kernel)) ggX7_mayBe_X7_isCell
set_option maxRecDepth 20000 in
theorem ggX7_mayBe_X7_isHeading : GoodIn wsX7_mayBe wsX7_isHeading := goodIn_r _ [13, 5, 6, 3, 7] (by decide +kernel) (by decide +kernel)
set_option maxRecDepth 20000 in
theorem gX7_mayBe_X7_isHeading : GoodIn wsX7_mayBe (va_wsS RX7 148 yX7_isHeading wsX7_isHeading) := goodIn_app (goodIn_of _ (by decide +kernel)) ggX7_mayBe_X7_isHeading
set_option maxRecDepth 20000 in
theorem ggX7_mayBe_X7_within : GoodIn wsX7_mayBe wsX7_within := goodIn_r _ [7] (by decide +kernel) (by decide +kernel)
set_option maxRecDepth 20000 in
theorem gX7_mayBe_X7_within : GoodIn wsX7_mayBe (va_wsS RX7 105 yX7_within wsX7_within) := goodIn_app (goodIn_of _ (by decide +kernel)) ggX7_mayBe_X7_within
theorem dX7_mayBe_0 : decode cX7_mayBe 0 = .ok (.iload_n 0, 1) := by decide +kernel
theorem dX7_mayBe_1 : decode cX7_mayBe 1 = .ok (.tableswitch 55 0 3 #[31, 36, 41, 46], 31) := by decide +kernel
theorem dX7_mayBe_32 : decode cX7_mayBe 32 = .ok (.iload_n 1, 1) := by decide +kernel
theorem dX7_mayBe_33 : decode cX7_mayBe 33 = .ok (.invokestatic 145, 3) := by decide +kernel
theorem dX7_mayBe_36 : decode cX7_mayBe 36 = .ok (.ireturn, 1) := by decide +kernel
theorem dX7_mayBe_37 : decode cX7_mayBe 37 = .ok (.iload_n 1, 1) := by decide +kernel
theorem dX7_mayBe_38 : decode cX7_mayBe 38 = .ok (.invokestatic 116, 3) := by decide +kernel
theorem dX7_mayBe_41 : decode cX7_mayBe 41 = .ok (.ireturn, 1) := by decide +kernel
theorem dX7_mayBe_42 : decode cX7_mayBe 42 = .ok (.iload_n 1, 1) := by decide +kernel
theorem dX7_mayBe_43 : decode cX7_mayBe 43 = .ok (.invokestatic 148, 3) := by decide +kernel
theorem dX7_mayBe_46 : decode cX7_mayBe 46 = .ok (.ireturn, 1) := by decide +kernel
theorem dX7_mayBe_47 : decode cX7_mayBe 47 = .ok (.iload_n 1, 1) := by decide +kernel
theorem dX7_mayBe_48 : decode cX7_mayBe 48 = .ok (.iconst 0, 1) := by decide +kernel
theorem dX7_mayBe_49 : decode cX7_mayBe 49 = .ok (.sipush 999, 3) := by decide +kernel
theorem dX7_mayBe_52 : decode cX7_mayBe 52 = .ok (.invokestatic 105, 3) := by decide +kernel
theorem dX7_mayBe_55 : decode cX7_mayBe 55 = .ok (.ireturn, 1) := by decide +kernel
theorem dX7_mayBe_56 : decode cX7_mayBe 56 = .ok (.iconst 0, 1) := by decide +kernel
theorem dX7_mayBe_57 : decode cX7_mayBe 57 = .ok (.ireturn, 1) := by decide +kernel
set_option maxRecDepth 20000 in
theorem ggX7_change_X7_isSeed : GoodIn wsX7_change wsX7_isSeed := goodIn_r _ [6, 7, 8, 9, 5, 10, 35, 36, 37, 38, 39, 40, 41, 42, 43, 44, 45, 46, 47, 48, 49, 50, 51, 52, 53, 54, 55, 56, 57, 58, 59, 60, 61] (by decide +kernel) (by decide +kernel)
set_option maxRecDepth 20000 in
theorem gX7_change_X7_isSeed : GoodIn wsX7_change (wsV RX7 182 RX7 yX7_isSeed wsX7_isSeed) := goodIn_app (goodIn_of _ (by decide +kernel)) ggX7_change_X7_isSeed
set_option maxRecDepth 20000 in
theorem ggX7_change_X7_mayBe : GoodIn wsX7_change wsX7_mayBe := goodIn_r _ [13, 14, 15, 5, 16, 8, 9, 10, 17, 18, 19, 20, 21, 22] (by decide +kernel) (by decide +kernel)
set_option maxRecDepth 20000 in
theorem gX7_change_X7_mayBe : GoodIn wsX7_change (va_wsS RX7 188 yX7_mayBe wsX7_mayBe) := goodIn_app (goodIn_of _ (by decide +kernel)) ggX7_change_X7_mayBe
set_option maxRecDepth 20000 in
theorem ggX7_change_X7_at : GoodIn wsX7_change wsX7_at := goodIn_r _ [25] (by decide +kernel) (by decide +kernel)
set_option maxRecDepth 20000 in
theorem gX7_change_X7_at : GoodIn wsX7_change (va_wsS RX7 109 yX7_at wsX7_at) := goodIn_app (goodIn_of _ (by decide +kernel)) ggX7_change_X7_at
set_option maxRecDepth 20000 in
theorem ggX7_change_X7_become : GoodIn wsX7_change wsX7_become := goodIn_r _ [29, 7, 35, 36, 37, 38, 39, 40, 41, 42, 43, 44, 45, 46, 47, 48, 49, 50, 51, 52, 53, 54, 55, 56, 57, 58, 59, 60, 61] (by decide +kernel) (by decide +kernel)
set_option maxRecDepth 20000 in
theorem gX7_change_X7_become : GoodIn wsX7_change (wsV RX7 113 RX7 yX7_become wsX7_become) := goodIn_app (goodIn_of _ (by decide +kernel)) ggX7_change_X7_become
set_option maxRecDepth 20000 in
theorem ggX7_change_X7_finding : GoodIn wsX7_change wsX7_finding := goodIn_r _ [33, 34, 1, 35, 36, 37, 38, 39, 40, 41, 42, 43, 44, 45, 46, 47, 48, 49, 50, 51, 52, 53, 54, 55, 56, 57, 58, 59, 60, 61] (by decide +kernel) (by decide +kernel)
set_option maxRecDepth 20000 in
theorem gX7_change_X7_finding : GoodIn wsX7_change (wsV RX7 101 RX7 yX7_finding wsX7_finding) := goodIn_app (goodIn_of _ (by decide +kernel)) ggX7_change_X7_finding
theorem dX7_change_0 : decode cX7_change 0 = .ok (.aload_n 0, 1) := by decide +kernel
theorem dX7_change_1 : decode cX7_change 1 = .ok (.iload_n 1, 1) := by decide +kernel
theorem dX7_change_2 : decode cX7_change 2 = .ok (.invokevirtual 182, 3) := by decide +kernel
theorem dX7_change_5 : decode cX7_change 5 = .ok (.ifCond .eq 24, 3) := by decide +kernel
theorem dX7_change_8 : decode cX7_change 8 = .ok (.iload_n 2, 1) := by decide +kernel
theorem dX7_change_9 : decode cX7_change 9 = .ok (.iload_n 3, 1) := by decide +kernel
theorem dX7_change_10 : decode cX7_change 10 = .ok (.invokestatic 188, 3) := by decide +kernel
theorem dX7_change_13 : decode cX7_change 13 = .ok (.ifCond .eq 16, 3) := by decide +kernel
theorem dX7_change_16 : decode cX7_change 16 = .ok (.aload_n 0, 1) := by decide +kernel
theorem dX7_change_17 : decode cX7_change 17 = .ok (.iload_n 1, 1) := by decide +kernel
theorem dX7_change_18 : decode cX7_change 18 = .ok (.iload_n 2, 1) := by decide +kernel
theorem dX7_change_19 : decode cX7_change 19 = .ok (.invokestatic 109, 3) := by decide +kernel
theorem dX7_change_22 : decode cX7_change 22 = .ok (.iload_n 3, 1) := by decide +kernel
theorem dX7_change_23 : decode cX7_change 23 = .ok (.invokevirtual 113, 3) := by decide +kernel
theorem dX7_change_26 : decode cX7_change 26 = .ok (.goto 9, 3) := by decide +kernel
theorem dX7_change_29 : decode cX7_change 29 = .ok (.aload_n 0, 1) := by decide +kernel
theorem dX7_change_30 : decode cX7_change 30 = .ok (.ldc 95, 2) := by decide +kernel
theorem dX7_change_32 : decode cX7_change 32 = .ok (.invokevirtual 101, 3) := by decide +kernel
theorem dX7_change_35 : decode cX7_change 35 = .ok (.ireturn, 1) := by decide +kernel
set_option maxRecDepth 20000 in
theorem ggX7_apart_X7_isCell : GoodIn wsX7_apart wsX7_isCell := goodIn_r _ [5, 6, 7, 4, 8] (by decide +kernel) (by decide +kernel)
set_option maxRecDepth 20000 in
theorem gX7_apart_X7_isCell : GoodIn wsX7_apart (va_wsS RX7 116 yX7_isCell wsX7_isCell) := goodIn_app (goodIn_of _ (by decide +kernel)) ggX7_apart_X7_isCell
set_option maxRecDepth 20000 in
theorem ggX7_apart_X7_apartOf : GoodIn wsX7_apart wsX7_apartOf := goodIn_r _ [11, 12, 13, 14, 15] (by decide +kernel) (by decide +kernel)
set_option maxRecDepth 20000 in
theorem gX7_apart_X7_apartOf : GoodIn wsX7_apart (va_wsS RX7 161 yX7_apartOf wsX7_apartOf) := goodIn_app (goodIn_of _ (by decide +kernel)) ggX7_apart_X7_apartOf
set_option maxRecDepth 20000 in
theorem ggX7_apart_X7_finding : GoodIn wsX7_apart wsX7_finding := goodIn_r _ [19, 20, 1, 21, 22, 23, 24, 25, 26, 27, 28, 29, 30, 31, 32, 33, 34, 35, 36, 37, 38, 39, 40, 41, 42, 43, 44, 45, 46, 47] (by decide +kernel) (by decide +kernel)
set_option maxRecDepth 20000 in
theorem gX7_apart_X7_finding : GoodIn wsX7_apart (wsV RX7 101 RX7 yX7_finding wsX7_finding) := goodIn_app (goodIn_of _ (by decide +kernel)) ggX7_apart_X7_finding
theorem dX7_apart_0 : decode cX7_apart 0 = .ok (.iload_n 1, 1) := by decide +kernel
theorem dX7_apart_1 : decode cX7_apart 1 = .ok (.invokestatic 116, 3) := by decide +kernel
theorem dX7_apart_4 : decode cX7_apart 4 = .ok (.ifCond .eq 18, 3) := by decide +kernel
theorem dX7_apart_7 : decode cX7_apart 7 = .ok (.iload_n 2, 1) := by decide +kernel
theorem dX7_apart_8 : decode cX7_apart 8 = .ok (.invokestatic 116, 3) := by decide +kernel
theorem dX7_apart_11 : decode cX7_apart 11 = .ok (.ifCond .eq 11, 3) := by decide +kernel
theorem dX7_apart_14 : decode cX7_apart 14 = .ok (.iload_n 1, 1) := by decide +kernel
theorem dX7_apart_15 : decode cX7_apart 15 = .ok (.iload_n 2, 1) := by decide +kernel
theorem dX7_apart_16 : decode cX7_apart 16 = .ok (.invokestatic 161, 3) := by decide +kernel
theorem dX7_apart_19 : decode cX7_apart 19 = .ok (.goto 9, 3) := by decide +kernel
theorem dX7_apart_22 : decode cX7_apart 22 = .ok (.aload_n 0, 1) := by decide +kernel
theorem dX7_apart_23 : decode cX7_apart 23 = .ok (.ldc 95, 2) := by decide +kernel
theorem dX7_apart_25 : decode cX7_apart 25 = .ok (.invokevirtual 101, 3) := by decide +kernel
theorem dX7_apart_28 : decode cX7_apart 28 = .ok (.ireturn, 1) := by decide +kernel
set_option maxRecDepth 20000 in
theorem ggX7_grows_X7_turnOf : GoodIn wsX7_grows wsX7_turnOf := goodIn_r _ [11, 1, 12, 13, 14, 10, 15, 16, 17, 18, 19, 20, 21, 22, 23, 24, 25, 26, 27, 28, 29, 30, 31, 5, 32, 33, 34, 35, 36, 37, 38, 39, 40, 41, 42, 43, 44, 45, 46, 47, 48, 49, 50, 51, 56, 57, 58, 59, 60, 61, 62, 63, 64, 65, 66, 67, 68, 69, 70, 71, 72, 73, 74, 75, 76, 77, 78, 79, 80, 81, 82] (by decide +kernel) (by decide +kernel)
set_option maxRecDepth 20000 in
theorem gX7_grows_X7_turnOf : GoodIn wsX7_grows (wsV RX7 185 RX7 yX7_turnOf wsX7_turnOf) := goodIn_app (goodIn_of _ (by decide +kernel)) ggX7_grows_X7_turnOf
set_option maxRecDepth 20000 in
theorem ggX7_grows_X7_seedIs : GoodIn wsX7_grows wsX7_seedIs := goodIn_r _ [15, 1, 16, 17, 10, 18, 56, 57, 58, 59, 60, 61, 62, 63, 64, 65, 66, 67, 68, 69, 70, 71, 72, 73, 74, 75, 76, 77, 78, 79, 80, 81, 82] (by decide +kernel) (by decide +kernel)
set_option maxRecDepth 20000 in
theorem gX7_grows_X7_seedIs : GoodIn wsX7_grows (wsV RX7 129 RX7 yX7_seedIs wsX7_seedIs) := goodIn_app (goodIn_of _ (by decide +kernel)) ggX7_grows_X7_seedIs
set_option maxRecDepth 20000 in
theorem ggX7_grows_X7_beside : GoodIn wsX7_grows wsX7_beside := goodIn_r _ [38] (by decide +kernel) (by decide +kernel)
set_option maxRecDepth 20000 in
theorem gX7_grows_X7_beside : GoodIn wsX7_grows (va_wsS RX7 123 yX7_beside wsX7_beside) := goodIn_app (goodIn_of _ (by decide +kernel)) ggX7_grows_X7_beside
set_option maxRecDepth 20000 in
theorem ggX7_grows_X7_isGrass : GoodIn wsX7_grows wsX7_isGrass := goodIn_r _ [55, 1, 56, 57, 58, 59, 60, 61, 62, 63, 64, 65, 66, 67, 68, 69, 70, 71, 72, 73, 74, 75, 76, 77, 78, 79, 80, 81, 82] (by decide +kernel) (by decide +kernel)
set_option maxRecDepth 20000 in
theorem gX7_grows_X7_isGrass : GoodIn wsX7_grows (wsV RX7 141 RX7 yX7_isGrass wsX7_isGrass) := goodIn_app (goodIn_of _ (by decide +kernel)) ggX7_grows_X7_isGrass
set_option maxRecDepth 20000 in
theorem ggX7_grows_X7_at : GoodIn wsX7_grows wsX7_at := goodIn_r _ [18] (by decide +kernel) (by decide +kernel)
set_option maxRecDepth 20000 in
theorem gX7_grows_X7_at : GoodIn wsX7_grows (va_wsS RX7 109 yX7_at wsX7_at) := goodIn_app (goodIn_of _ (by decide +kernel)) ggX7_grows_X7_at
theorem dX7_grows_0 : decode cX7_grows 0 = .ok (.aload_n 0, 1) := by decide +kernel
theorem dX7_grows_1 : decode cX7_grows 1 = .ok (.iload_n 1, 1) := by decide +kernel
theorem dX7_grows_2 : decode cX7_grows 2 = .ok (.invokevirtual 185, 3) := by decide +kernel
theorem dX7_grows_5 : decode cX7_grows 5 = .ok (.istore_n 2, 1) := by decide +kernel
theorem dX7_grows_6 : decode cX7_grows 6 = .ok (.aload_n 0, 1) := by decide +kernel
theorem dX7_grows_7 : decode cX7_grows 7 = .ok (.iload_n 1, 1) := by decide +kernel
theorem dX7_grows_8 : decode cX7_grows 8 = .ok (.iconst 1, 1) := by decide +kernel
theorem dX7_grows_9 : decode cX7_grows 9 = .ok (.invokevirtual 129, 3) := by decide +kernel
theorem dX7_grows_12 : decode cX7_grows 12 = .ok (.istore_n 3, 1) := by decide +kernel
theorem dX7_grows_13 : decode cX7_grows 13 = .ok (.iload_n 3, 1) := by decide +kernel
theorem dX7_grows_14 : decode cX7_grows 14 = .ok (.iload_n 2, 1) := by decide +kernel
theorem dX7_grows_15 : decode cX7_grows 15 = .ok (.invokestatic 123, 3) := by decide +kernel
theorem dX7_grows_18 : decode cX7_grows 18 = .ok (.istore 4, 2) := by decide +kernel
theorem dX7_grows_20 : decode cX7_grows 20 = .ok (.iload 4, 2) := by decide +kernel
theorem dX7_grows_22 : decode cX7_grows 22 = .ok (.ifCond .lt 16, 3) := by decide +kernel
theorem dX7_grows_25 : decode cX7_grows 25 = .ok (.aload_n 0, 1) := by decide +kernel
theorem dX7_grows_26 : decode cX7_grows 26 = .ok (.iload 4, 2) := by decide +kernel
theorem dX7_grows_28 : decode cX7_grows 28 = .ok (.invokevirtual 141, 3) := by decide +kernel
theorem dX7_grows_31 : decode cX7_grows 31 = .ok (.ifCond .eq 7, 3) := by decide +kernel
theorem dX7_grows_34 : decode cX7_grows 34 = .ok (.iconst 1, 1) := by decide +kernel
theorem dX7_grows_35 : decode cX7_grows 35 = .ok (.goto 4, 3) := by decide +kernel
theorem dX7_grows_38 : decode cX7_grows 38 = .ok (.iconst 0, 1) := by decide +kernel
theorem dX7_grows_39 : decode cX7_grows 39 = .ok (.istore 5, 2) := by decide +kernel
theorem dX7_grows_41 : decode cX7_grows 41 = .ok (.aload_n 0, 1) := by decide +kernel
theorem dX7_grows_42 : decode cX7_grows 42 = .ok (.getfield 9, 3) := by decide +kernel
theorem dX7_grows_45 : decode cX7_grows 45 = .ok (.iload_n 1, 1) := by decide +kernel
theorem dX7_grows_46 : decode cX7_grows 46 = .ok (.iconst 2, 1) := by decide +kernel
theorem dX7_grows_47 : decode cX7_grows 47 = .ok (.invokestatic 109, 3) := by decide +kernel
theorem dX7_grows_50 : decode cX7_grows 50 = .ok (.iload 5, 2) := by decide +kernel
theorem dX7_grows_52 : decode cX7_grows 52 = .ok (.ifCond .eq 7, 3) := by decide +kernel
theorem dX7_grows_55 : decode cX7_grows 55 = .ok (.iload_n 2, 1) := by decide +kernel
theorem dX7_grows_56 : decode cX7_grows 56 = .ok (.goto 8, 3) := by decide +kernel
theorem dX7_grows_59 : decode cX7_grows 59 = .ok (.iload_n 2, 1) := by decide +kernel
theorem dX7_grows_60 : decode cX7_grows 60 = .ok (.iconst 1, 1) := by decide +kernel
theorem dX7_grows_61 : decode cX7_grows 61 = .ok (.iadd, 1) := by decide +kernel
theorem dX7_grows_62 : decode cX7_grows 62 = .ok (.iconst 4, 1) := by decide +kernel
theorem dX7_grows_63 : decode cX7_grows 63 = .ok (.irem, 1) := by decide +kernel
theorem dX7_grows_64 : decode cX7_grows 64 = .ok (.iastore, 1) := by decide +kernel
theorem dX7_grows_65 : decode cX7_grows 65 = .ok (.iload 5, 2) := by decide +kernel
theorem dX7_grows_67 : decode cX7_grows 67 = .ok (.ifCond .eq 8, 3) := by decide +kernel
theorem dX7_grows_70 : decode cX7_grows 70 = .ok (.iload 4, 2) := by decide +kernel
theorem dX7_grows_72 : decode cX7_grows 72 = .ok (.goto 4, 3) := by decide +kernel
theorem dX7_grows_75 : decode cX7_grows 75 = .ok (.iload_n 3, 1) := by decide +kernel
theorem dX7_grows_76 : decode cX7_grows 76 = .ok (.istore 6, 2) := by decide +kernel
theorem dX7_grows_78 : decode cX7_grows 78 = .ok (.aload_n 0, 1) := by decide +kernel
theorem dX7_grows_79 : decode cX7_grows 79 = .ok (.getfield 9, 3) := by decide +kernel
theorem dX7_grows_82 : decode cX7_grows 82 = .ok (.iload_n 1, 1) := by decide +kernel
theorem dX7_grows_83 : decode cX7_grows 83 = .ok (.iconst 1, 1) := by decide +kernel
theorem dX7_grows_84 : decode cX7_grows 84 = .ok (.invokestatic 109, 3) := by decide +kernel
theorem dX7_grows_87 : decode cX7_grows 87 = .ok (.iload 6, 2) := by decide +kernel
theorem dX7_grows_89 : decode cX7_grows 89 = .ok (.iastore, 1) := by decide +kernel
theorem dX7_grows_90 : decode cX7_grows 90 = .ok (.aload_n 0, 1) := by decide +kernel
theorem dX7_grows_91 : decode cX7_grows 91 = .ok (.getfield 9, 3) := by decide +kernel
theorem dX7_grows_94 : decode cX7_grows 94 = .ok (.bipush 49, 2) := by decide +kernel
theorem dX7_grows_96 : decode cX7_grows 96 = .ok (.iload 6, 2) := by decide +kernel
theorem dX7_grows_98 : decode cX7_grows 98 = .ok (.iadd, 1) := by decide +kernel
theorem dX7_grows_99 : decode cX7_grows 99 = .ok (.aload_n 0, 1) := by decide +kernel
theorem dX7_grows_100 : decode cX7_grows 100 = .ok (.iload 6, 2) := by decide +kernel
theorem dX7_grows_102 : decode cX7_grows 102 = .ok (.invokevirtual 141, 3) := by decide +kernel
theorem dX7_grows_105 : decode cX7_grows 105 = .ok (.ifCond .eq 30, 3) := by decide +kernel
theorem dX7_grows_108 : decode cX7_grows 108 = .ok (.aload_n 0, 1) := by decide +kernel
theorem dX7_grows_109 : decode cX7_grows 109 = .ok (.getfield 9, 3) := by decide +kernel
theorem dX7_grows_112 : decode cX7_grows 112 = .ok (.bipush 49, 2) := by decide +kernel
theorem dX7_grows_114 : decode cX7_grows 114 = .ok (.iload 6, 2) := by decide +kernel
theorem dX7_grows_116 : decode cX7_grows 116 = .ok (.iadd, 1) := by decide +kernel
theorem dX7_grows_117 : decode cX7_grows 117 = .ok (.iaload, 1) := by decide +kernel
theorem dX7_grows_118 : decode cX7_grows 118 = .ok (.aload_n 0, 1) := by decide +kernel
theorem dX7_grows_119 : decode cX7_grows 119 = .ok (.getfield 31, 3) := by decide +kernel
theorem dX7_grows_122 : decode cX7_grows 122 = .ok (.aload_n 0, 1) := by decide +kernel
theorem dX7_grows_123 : decode cX7_grows 123 = .ok (.iload_n 1, 1) := by decide +kernel
theorem dX7_grows_124 : decode cX7_grows 124 = .ok (.iconst 0, 1) := by decide +kernel
theorem dX7_grows_125 : decode cX7_grows 125 = .ok (.invokevirtual 129, 3) := by decide +kernel
theorem dX7_grows_128 : decode cX7_grows 128 = .ok (.iaload, 1) := by decide +kernel
theorem dX7_grows_129 : decode cX7_grows 129 = .ok (.invokestatic 192, 3) := by decide +kernel
theorem dX7_grows_132 : decode cX7_grows 132 = .ok (.goto 13, 3) := by decide +kernel
theorem dX7_grows_135 : decode cX7_grows 135 = .ok (.aload_n 0, 1) := by decide +kernel
theorem dX7_grows_136 : decode cX7_grows 136 = .ok (.getfield 9, 3) := by decide +kernel
theorem dX7_grows_139 : decode cX7_grows 139 = .ok (.bipush 49, 2) := by decide +kernel
theorem dX7_grows_141 : decode cX7_grows 141 = .ok (.iload 6, 2) := by decide +kernel
theorem dX7_grows_143 : decode cX7_grows 143 = .ok (.iadd, 1) := by decide +kernel
theorem dX7_grows_144 : decode cX7_grows 144 = .ok (.iaload, 1) := by decide +kernel
theorem dX7_grows_145 : decode cX7_grows 145 = .ok (.iastore, 1) := by decide +kernel
theorem dX7_grows_146 : decode cX7_grows 146 = .ok (.aload_n 0, 1) := by decide +kernel
theorem dX7_grows_147 : decode cX7_grows 147 = .ok (.getfield 9, 3) := by decide +kernel
theorem dX7_grows_150 : decode cX7_grows 150 = .ok (.iload_n 1, 1) := by decide +kernel
theorem dX7_grows_151 : decode cX7_grows 151 = .ok (.iconst 3, 1) := by decide +kernel
theorem dX7_grows_152 : decode cX7_grows 152 = .ok (.invokestatic 109, 3) := by decide +kernel
theorem dX7_grows_155 : decode cX7_grows 155 = .ok (.dup2, 1) := by decide +kernel
theorem dX7_grows_156 : decode cX7_grows 156 = .ok (.iaload, 1) := by decide +kernel
theorem dX7_grows_157 : decode cX7_grows 157 = .ok (.iconst 1, 1) := by decide +kernel
theorem dX7_grows_158 : decode cX7_grows 158 = .ok (.iadd, 1) := by decide +kernel
theorem dX7_grows_159 : decode cX7_grows 159 = .ok (.iastore, 1) := by decide +kernel
theorem dX7_grows_160 : decode cX7_grows 160 = .ok (.return_, 1) := by decide +kernel
set_option maxRecDepth 20000 in
theorem ggX7_season_X7_isAlive : GoodIn wsX7_season wsX7_isAlive := goodIn_r _ [10, 11, 12, 13, 14, 9, 15, 1, 16, 17, 18, 60, 61, 62, 63, 64, 65, 66, 67, 68, 69, 70, 71, 72, 73, 74, 75, 76, 77, 78, 79, 80, 81, 82, 83, 84, 85, 86] (by decide +kernel) (by decide +kernel)
set_option maxRecDepth 20000 in
theorem gX7_season_X7_isAlive : GoodIn wsX7_season (wsV RX7 164 RX7 yX7_isAlive wsX7_isAlive) := goodIn_app (goodIn_of _ (by decide +kernel)) ggX7_season_X7_isAlive
set_option maxRecDepth 20000 in
theorem ggX7_season_X7_grows : GoodIn wsX7_season wsX7_grows := goodIn_r _ [22, 1, 23, 2, 3, 4, 5, 24, 25, 26, 9, 27, 12, 13, 14, 15, 16, 17, 18, 28, 29, 30, 31, 32, 33, 34, 35, 36, 37, 38, 39, 40, 41, 42, 43, 44, 45, 46, 47, 48, 49, 50, 51, 52, 53, 54, 55, 6, 7, 8, 10, 11, 56, 57, 58, 59, 60, 61, 62, 63, 64, 65, 66, 67, 68, 69, 70, 71, 72, 73, 74, 75, 76, 77, 78, 79, 80, 81, 82, 83, 84, 85, 86] (by decide +kernel) (by decide +kernel)
set_option maxRecDepth 20000 in
theorem gX7_season_X7_grows : GoodIn wsX7_season (wsV RX7 195 RX7 yX7_grows wsX7_grows) := goodIn_app (goodIn_of _ (by decide +kernel)) ggX7_season_X7_grows
theorem dX7_season_0 : decode cX7_season 0 = .ok (.iconst 0, 1) := by decide +kernel
theorem dX7_season_1 : decode cX7_season 1 = .ok (.istore_n 1, 1) := by decide +kernel
theorem dX7_season_2 : decode cX7_season 2 = .ok (.iload_n 1, 1) := by decide +kernel
theorem dX7_season_3 : decode cX7_season 3 = .ok (.bipush 36, 2) := by decide +kernel
theorem dX7_season_5 : decode cX7_season 5 = .ok (.if_icmp .ge 33, 3) := by decide +kernel
theorem dX7_season_8 : decode cX7_season 8 = .ok (.aload_n 0, 1) := by decide +kernel
theorem dX7_season_9 : decode cX7_season 9 = .ok (.getfield 9, 3) := by decide +kernel
theorem dX7_season_12 : decode cX7_season 12 = .ok (.bipush 49, 2) := by decide +kernel
theorem dX7_season_14 : decode cX7_season 14 = .ok (.iload_n 1, 1) := by decide +kernel
theorem dX7_season_15 : decode cX7_season 15 = .ok (.iadd, 1) := by decide +kernel
theorem dX7_season_16 : decode cX7_season 16 = .ok (.iconst 0, 1) := by decide +kernel
theorem dX7_season_17 : decode cX7_season 17 = .ok (.aload_n 0, 1) := by decide +kernel
theorem dX7_season_18 : decode cX7_season 18 = .ok (.getfield 9, 3) := by decide +kernel
theorem dX7_season_21 : decode cX7_season 21 = .ok (.bipush 49, 2) := by decide +kernel
theorem dX7_season_23 : decode cX7_season 23 = .ok (.iload_n 1, 1) := by decide +kernel
theorem dX7_season_24 : decode cX7_season 24 = .ok (.iadd, 1) := by decide +kernel
theorem dX7_season_25 : decode cX7_season 25 = .ok (.iaload, 1) := by decide +kernel
theorem dX7_season_26 : decode cX7_season 26 = .ok (.iconst 1, 1) := by decide +kernel
theorem dX7_season_27 : decode cX7_season 27 = .ok (.isub, 1) := by decide +kernel
theorem dX7_season_28 : decode cX7_season 28 = .ok (.invokestatic 192, 3) := by decide +kernel
theorem dX7_season_31 : decode cX7_season 31 = .ok (.iastore, 1) := by decide +kernel
theorem dX7_season_32 : decode cX7_season 32 = .ok (.iinc 1 1, 3) := by decide +kernel
theorem dX7_season_35 : decode cX7_season 35 = .ok (.goto (-33), 3) := by decide +kernel
theorem dX7_season_38 : decode cX7_season 38 = .ok (.iconst 0, 1) := by decide +kernel
theorem dX7_season_39 : decode cX7_season 39 = .ok (.istore_n 1, 1) := by decide +kernel
theorem dX7_season_40 : decode cX7_season 40 = .ok (.iload_n 1, 1) := by decide +kernel
theorem dX7_season_41 : decode cX7_season 41 = .ok (.aload_n 0, 1) := by decide +kernel
theorem dX7_season_42 : decode cX7_season 42 = .ok (.getfield 9, 3) := by decide +kernel
theorem dX7_season_45 : decode cX7_season 45 = .ok (.iconst 1, 1) := by decide +kernel
theorem dX7_season_46 : decode cX7_season 46 = .ok (.iaload, 1) := by decide +kernel
theorem dX7_season_47 : decode cX7_season 47 = .ok (.if_icmp .ge 22, 3) := by decide +kernel
theorem dX7_season_50 : decode cX7_season 50 = .ok (.aload_n 0, 1) := by decide +kernel
theorem dX7_season_51 : decode cX7_season 51 = .ok (.iload_n 1, 1) := by decide +kernel
theorem dX7_season_52 : decode cX7_season 52 = .ok (.invokevirtual 164, 3) := by decide +kernel
theorem dX7_season_55 : decode cX7_season 55 = .ok (.ifCond .eq 8, 3) := by decide +kernel
theorem dX7_season_58 : decode cX7_season 58 = .ok (.aload_n 0, 1) := by decide +kernel
theorem dX7_season_59 : decode cX7_season 59 = .ok (.iload_n 1, 1) := by decide +kernel
theorem dX7_season_60 : decode cX7_season 60 = .ok (.invokevirtual 195, 3) := by decide +kernel
theorem dX7_season_63 : decode cX7_season 63 = .ok (.iinc 1 1, 3) := by decide +kernel
theorem dX7_season_66 : decode cX7_season 66 = .ok (.goto (-26), 3) := by decide +kernel
theorem dX7_season_69 : decode cX7_season 69 = .ok (.aload_n 0, 1) := by decide +kernel
theorem dX7_season_70 : decode cX7_season 70 = .ok (.getfield 9, 3) := by decide +kernel
theorem dX7_season_73 : decode cX7_season 73 = .ok (.iconst 0, 1) := by decide +kernel
theorem dX7_season_74 : decode cX7_season 74 = .ok (.dup2, 1) := by decide +kernel
theorem dX7_season_75 : decode cX7_season 75 = .ok (.iaload, 1) := by decide +kernel
theorem dX7_season_76 : decode cX7_season 76 = .ok (.iconst 1, 1) := by decide +kernel
theorem dX7_season_77 : decode cX7_season 77 = .ok (.iadd, 1) := by decide +kernel
theorem dX7_season_78 : decode cX7_season 78 = .ok (.iastore, 1) := by decide +kernel
theorem dX7_season_79 : decode cX7_season 79 = .ok (.return_, 1) := by decide +kernel
set_option maxRecDepth 20000 in
theorem ggX7_seasons_X7_season : GoodIn wsX7_seasons wsX7_season := goodIn_r _ [5, 6, 7, 8, 9, 10, 11, 12, 13, 4, 14, 15, 16, 17, 18, 19, 20, 21, 22, 23, 24, 25, 26, 27, 28, 29, 30, 31, 32, 33, 34, 35, 36, 37, 38, 39, 40, 41, 42, 43, 44, 45, 46, 47, 48, 49, 50, 51, 52, 53, 54, 55, 56, 57, 58, 59, 60, 61, 62, 63, 64, 65, 66, 67, 68, 69, 70, 71, 72, 73, 74, 75, 76, 77, 78, 79, 80, 81, 82, 83, 84, 85, 86, 87, 88, 89, 90] (by decide +kernel) (by decide +kernel)
set_option maxRecDepth 20000 in
theorem gX7_seasons_X7_season : GoodIn wsX7_seasons (wsV RX7 199 RX7 yX7_season wsX7_season) := goodIn_app (goodIn_of _ (by decide +kernel)) ggX7_seasons_X7_season
theorem dX7_seasons_0 : decode cX7_seasons 0 = .ok (.iconst 0, 1) := by decide +kernel
theorem dX7_seasons_1 : decode cX7_seasons 1 = .ok (.istore_n 2, 1) := by decide +kernel
theorem dX7_seasons_2 : decode cX7_seasons 2 = .ok (.iload_n 2, 1) := by decide +kernel
theorem dX7_seasons_3 : decode cX7_seasons 3 = .ok (.iload_n 1, 1) := by decide +kernel
theorem dX7_seasons_4 : decode cX7_seasons 4 = .ok (.if_icmp .ge 13, 3) := by decide +kernel
theorem dX7_seasons_7 : decode cX7_seasons 7 = .ok (.aload_n 0, 1) := by decide +kernel
theorem dX7_seasons_8 : decode cX7_seasons 8 = .ok (.invokevirtual 199, 3) := by decide +kernel
theorem dX7_seasons_11 : decode cX7_seasons 11 = .ok (.iinc 2 1, 3) := by decide +kernel
theorem dX7_seasons_14 : decode cX7_seasons 14 = .ok (.goto (-12), 3) := by decide +kernel
theorem dX7_seasons_17 : decode cX7_seasons 17 = .ok (.return_, 1) := by decide +kernel
set_option maxRecDepth 20000 in
theorem ggX7_pathsNow_X7_hasPath : GoodIn wsX7_pathsNow wsX7_hasPath := goodIn_r _ [5, 6, 7, 8, 9, 10, 11, 12, 13, 14, 15, 16, 17, 18, 19, 20, 21, 22, 23, 24, 25, 26, 27, 28, 29, 30, 31, 32, 33] (by decide +kernel) (by decide +kernel)
set_option maxRecDepth 20000 in
theorem gX7_pathsNow_X7_hasPath : GoodIn wsX7_pathsNow (wsV RX7 126 RX7 yX7_hasPath wsX7_hasPath) := goodIn_app (goodIn_of _ (by decide +kernel)) ggX7_pathsNow_X7_hasPath
theorem dX7_pathsNow_0 : decode cX7_pathsNow 0 = .ok (.iconst 0, 1) := by decide +kernel
theorem dX7_pathsNow_1 : decode cX7_pathsNow 1 = .ok (.istore_n 1, 1) := by decide +kernel
theorem dX7_pathsNow_2 : decode cX7_pathsNow 2 = .ok (.iconst 0, 1) := by decide +kernel
theorem dX7_pathsNow_3 : decode cX7_pathsNow 3 = .ok (.istore_n 2, 1) := by decide +kernel
theorem dX7_pathsNow_4 : decode cX7_pathsNow 4 = .ok (.iload_n 2, 1) := by decide +kernel
theorem dX7_pathsNow_5 : decode cX7_pathsNow 5 = .ok (.bipush 36, 2) := by decide +kernel
theorem dX7_pathsNow_7 : decode cX7_pathsNow 7 = .ok (.if_icmp .ge 25, 3) := by decide +kernel
theorem dX7_pathsNow_10 : decode cX7_pathsNow 10 = .ok (.iload_n 1, 1) := by decide +kernel
theorem dX7_pathsNow_11 : decode cX7_pathsNow 11 = .ok (.aload_n 0, 1) := by decide +kernel
theorem dX7_pathsNow_12 : decode cX7_pathsNow 12 = .ok (.iload_n 2, 1) := by decide +kernel
theorem dX7_pathsNow_13 : decode cX7_pathsNow 13 = .ok (.invokevirtual 126, 3) := by decide +kernel
theorem dX7_pathsNow_16 : decode cX7_pathsNow 16 = .ok (.ifCond .eq 7, 3) := by decide +kernel
theorem dX7_pathsNow_19 : decode cX7_pathsNow 19 = .ok (.iconst 1, 1) := by decide +kernel
theorem dX7_pathsNow_20 : decode cX7_pathsNow 20 = .ok (.goto 4, 3) := by decide +kernel
theorem dX7_pathsNow_23 : decode cX7_pathsNow 23 = .ok (.iconst 0, 1) := by decide +kernel
theorem dX7_pathsNow_24 : decode cX7_pathsNow 24 = .ok (.iadd, 1) := by decide +kernel
theorem dX7_pathsNow_25 : decode cX7_pathsNow 25 = .ok (.istore_n 1, 1) := by decide +kernel
theorem dX7_pathsNow_26 : decode cX7_pathsNow 26 = .ok (.iinc 2 1, 3) := by decide +kernel
theorem dX7_pathsNow_29 : decode cX7_pathsNow 29 = .ok (.goto (-25), 3) := by decide +kernel
theorem dX7_pathsNow_32 : decode cX7_pathsNow 32 = .ok (.iload_n 1, 1) := by decide +kernel
theorem dX7_pathsNow_33 : decode cX7_pathsNow 33 = .ok (.ireturn, 1) := by decide +kernel
theorem dX7_pathSum_0 : decode cX7_pathSum 0 = .ok (.iconst 0, 1) := by decide +kernel
theorem dX7_pathSum_1 : decode cX7_pathSum 1 = .ok (.istore_n 1, 1) := by decide +kernel
theorem dX7_pathSum_2 : decode cX7_pathSum 2 = .ok (.iconst 0, 1) := by decide +kernel
theorem dX7_pathSum_3 : decode cX7_pathSum 3 = .ok (.istore_n 2, 1) := by decide +kernel
theorem dX7_pathSum_4 : decode cX7_pathSum 4 = .ok (.iload_n 2, 1) := by decide +kernel
theorem dX7_pathSum_5 : decode cX7_pathSum 5 = .ok (.bipush 36, 2) := by decide +kernel
theorem dX7_pathSum_7 : decode cX7_pathSum 7 = .ok (.if_icmp .ge 21, 3) := by decide +kernel
theorem dX7_pathSum_10 : decode cX7_pathSum 10 = .ok (.iload_n 1, 1) := by decide +kernel
theorem dX7_pathSum_11 : decode cX7_pathSum 11 = .ok (.aload_n 0, 1) := by decide +kernel
theorem dX7_pathSum_12 : decode cX7_pathSum 12 = .ok (.getfield 9, 3) := by decide +kernel
theorem dX7_pathSum_15 : decode cX7_pathSum 15 = .ok (.bipush 49, 2) := by decide +kernel
theorem dX7_pathSum_17 : decode cX7_pathSum 17 = .ok (.iload_n 2, 1) := by decide +kernel
theorem dX7_pathSum_18 : decode cX7_pathSum 18 = .ok (.iadd, 1) := by decide +kernel
theorem dX7_pathSum_19 : decode cX7_pathSum 19 = .ok (.iaload, 1) := by decide +kernel
theorem dX7_pathSum_20 : decode cX7_pathSum 20 = .ok (.iadd, 1) := by decide +kernel
theorem dX7_pathSum_21 : decode cX7_pathSum 21 = .ok (.istore_n 1, 1) := by decide +kernel
theorem dX7_pathSum_22 : decode cX7_pathSum 22 = .ok (.iinc 2 1, 3) := by decide +kernel
theorem dX7_pathSum_25 : decode cX7_pathSum 25 = .ok (.goto (-21), 3) := by decide +kernel
theorem dX7_pathSum_28 : decode cX7_pathSum 28 = .ok (.iload_n 1, 1) := by decide +kernel
theorem dX7_pathSum_29 : decode cX7_pathSum 29 = .ok (.ireturn, 1) := by decide +kernel
set_option maxRecDepth 20000 in
theorem ggX7_aliveNow_X7_isAlive : GoodIn wsX7_aliveNow wsX7_isAlive := goodIn_r _ [6, 7, 8, 9, 10, 5, 11, 1, 12, 13, 14, 15, 16, 17, 18, 19, 20, 21, 22, 23, 24, 25, 26, 27, 28, 29, 30, 31, 32, 33, 34, 35, 36, 37, 38, 39, 40, 41] (by decide +kernel) (by decide +kernel)
set_option maxRecDepth 20000 in
theorem gX7_aliveNow_X7_isAlive : GoodIn wsX7_aliveNow (wsV RX7 164 RX7 yX7_isAlive wsX7_isAlive) := goodIn_app (goodIn_of _ (by decide +kernel)) ggX7_aliveNow_X7_isAlive
theorem dX7_aliveNow_0 : decode cX7_aliveNow 0 = .ok (.iconst 0, 1) := by decide +kernel
theorem dX7_aliveNow_1 : decode cX7_aliveNow 1 = .ok (.istore_n 1, 1) := by decide +kernel
theorem dX7_aliveNow_2 : decode cX7_aliveNow 2 = .ok (.iconst 0, 1) := by decide +kernel
theorem dX7_aliveNow_3 : decode cX7_aliveNow 3 = .ok (.istore_n 2, 1) := by decide +kernel
theorem dX7_aliveNow_4 : decode cX7_aliveNow 4 = .ok (.iload_n 2, 1) := by decide +kernel
theorem dX7_aliveNow_5 : decode cX7_aliveNow 5 = .ok (.aload_n 0, 1) := by decide +kernel
theorem dX7_aliveNow_6 : decode cX7_aliveNow 6 = .ok (.getfield 9, 3) := by decide +kernel
theorem dX7_aliveNow_9 : decode cX7_aliveNow 9 = .ok (.iconst 1, 1) := by decide +kernel
theorem dX7_aliveNow_10 : decode cX7_aliveNow 10 = .ok (.iaload, 1) := by decide +kernel
theorem dX7_aliveNow_11 : decode cX7_aliveNow 11 = .ok (.if_icmp .ge 27, 3) := by decide +kernel
theorem dX7_aliveNow_14 : decode cX7_aliveNow 14 = .ok (.iload_n 1, 1) := by decide +kernel
theorem dX7_aliveNow_15 : decode cX7_aliveNow 15 = .ok (.aload_n 0, 1) := by decide +kernel
theorem dX7_aliveNow_16 : decode cX7_aliveNow 16 = .ok (.iload_n 2, 1) := by decide +kernel
theorem dX7_aliveNow_17 : decode cX7_aliveNow 17 = .ok (.invokevirtual 164, 3) := by decide +kernel
theorem dX7_aliveNow_20 : decode cX7_aliveNow 20 = .ok (.ifCond .eq 9, 3) := by decide +kernel
theorem dX7_aliveNow_23 : decode cX7_aliveNow 23 = .ok (.iconst 1, 1) := by decide +kernel
theorem dX7_aliveNow_24 : decode cX7_aliveNow 24 = .ok (.iload_n 2, 1) := by decide +kernel
theorem dX7_aliveNow_25 : decode cX7_aliveNow 25 = .ok (.ishl, 1) := by decide +kernel
theorem dX7_aliveNow_26 : decode cX7_aliveNow 26 = .ok (.goto 4, 3) := by decide +kernel
theorem dX7_aliveNow_29 : decode cX7_aliveNow 29 = .ok (.iconst 0, 1) := by decide +kernel
theorem dX7_aliveNow_30 : decode cX7_aliveNow 30 = .ok (.ior, 1) := by decide +kernel
theorem dX7_aliveNow_31 : decode cX7_aliveNow 31 = .ok (.istore_n 1, 1) := by decide +kernel
theorem dX7_aliveNow_32 : decode cX7_aliveNow 32 = .ok (.iinc 2 1, 3) := by decide +kernel
theorem dX7_aliveNow_35 : decode cX7_aliveNow 35 = .ok (.goto (-31), 3) := by decide +kernel
theorem dX7_aliveNow_38 : decode cX7_aliveNow 38 = .ok (.iload_n 1, 1) := by decide +kernel
theorem dX7_aliveNow_39 : decode cX7_aliveNow 39 = .ok (.ireturn, 1) := by decide +kernel
set_option maxRecDepth 20000 in
theorem ggX7_isBench_X7_hasPath : GoodIn wsX7_isBench wsX7_hasPath := goodIn_r _ [5, 6, 14, 15, 16, 17, 18, 19, 20, 21, 22, 23, 24, 25, 26, 27, 28, 29, 30, 31, 32, 33, 34, 35, 36, 37, 38, 39, 40] (by decide +kernel) (by decide +kernel)
set_option maxRecDepth 20000 in
theorem gX7_isBench_X7_hasPath : GoodIn wsX7_isBench (wsV RX7 126 RX7 yX7_hasPath wsX7_hasPath) := goodIn_app (goodIn_of _ (by decide +kernel)) ggX7_isBench_X7_hasPath
set_option maxRecDepth 20000 in
theorem ggX7_isBench_X7_pathsBeside : GoodIn wsX7_isBench wsX7_pathsBeside := goodIn_r _ [10, 11, 12, 4, 13, 1, 2, 3, 5, 6, 14, 15, 16, 17, 18, 19, 20, 21, 22, 23, 24, 25, 26, 27, 28, 29, 30, 31, 32, 33, 34, 35, 36, 37, 38, 39, 40] (by decide +kernel) (by decide +kernel)
set_option maxRecDepth 20000 in
theorem gX7_isBench_X7_pathsBeside : GoodIn wsX7_isBench (wsV RX7 132 RX7 yX7_pathsBeside wsX7_pathsBeside) := goodIn_app (goodIn_of _ (by decide +kernel)) ggX7_isBench_X7_pathsBeside
theorem dX7_isBench_0 : decode cX7_isBench 0 = .ok (.aload_n 0, 1) := by decide +kernel
theorem dX7_isBench_1 : decode cX7_isBench 1 = .ok (.iload_n 1, 1) := by decide +kernel
theorem dX7_isBench_2 : decode cX7_isBench 2 = .ok (.invokevirtual 126, 3) := by decide +kernel
theorem dX7_isBench_5 : decode cX7_isBench 5 = .ok (.ifCond .eq 16, 3) := by decide +kernel
theorem dX7_isBench_8 : decode cX7_isBench 8 = .ok (.aload_n 0, 1) := by decide +kernel
theorem dX7_isBench_9 : decode cX7_isBench 9 = .ok (.iload_n 1, 1) := by decide +kernel
theorem dX7_isBench_10 : decode cX7_isBench 10 = .ok (.invokevirtual 132, 3) := by decide +kernel
theorem dX7_isBench_13 : decode cX7_isBench 13 = .ok (.iconst 2, 1) := by decide +kernel
theorem dX7_isBench_14 : decode cX7_isBench 14 = .ok (.if_icmp .le 7, 3) := by decide +kernel
theorem dX7_isBench_17 : decode cX7_isBench 17 = .ok (.iconst 1, 1) := by decide +kernel
theorem dX7_isBench_18 : decode cX7_isBench 18 = .ok (.goto 4, 3) := by decide +kernel
theorem dX7_isBench_21 : decode cX7_isBench 21 = .ok (.iconst 0, 1) := by decide +kernel
theorem dX7_isBench_22 : decode cX7_isBench 22 = .ok (.ireturn, 1) := by decide +kernel
set_option maxRecDepth 20000 in
theorem ggX7_benches_X7_isBench : GoodIn wsX7_benches wsX7_isBench := goodIn_r _ [5, 6, 7, 8, 4, 9, 10, 11, 12, 13, 14, 15, 16, 17, 18, 19, 20, 21, 22, 23, 24, 25, 26, 27, 28, 29, 30, 31, 32, 33, 34, 35, 36, 37, 38, 39, 40, 41, 42, 43, 44] (by decide +kernel) (by decide +kernel)
set_option maxRecDepth 20000 in
theorem gX7_benches_X7_isBench : GoodIn wsX7_benches (wsV RX7 202 RX7 yX7_isBench wsX7_isBench) := goodIn_app (goodIn_of _ (by decide +kernel)) ggX7_benches_X7_isBench
theorem dX7_benches_0 : decode cX7_benches 0 = .ok (.iconst 0, 1) := by decide +kernel
theorem dX7_benches_1 : decode cX7_benches 1 = .ok (.istore_n 1, 1) := by decide +kernel
theorem dX7_benches_2 : decode cX7_benches 2 = .ok (.iconst 0, 1) := by decide +kernel
theorem dX7_benches_3 : decode cX7_benches 3 = .ok (.istore_n 2, 1) := by decide +kernel
theorem dX7_benches_4 : decode cX7_benches 4 = .ok (.iload_n 2, 1) := by decide +kernel
theorem dX7_benches_5 : decode cX7_benches 5 = .ok (.bipush 36, 2) := by decide +kernel
theorem dX7_benches_7 : decode cX7_benches 7 = .ok (.if_icmp .ge 25, 3) := by decide +kernel
theorem dX7_benches_10 : decode cX7_benches 10 = .ok (.iload_n 1, 1) := by decide +kernel
theorem dX7_benches_11 : decode cX7_benches 11 = .ok (.aload_n 0, 1) := by decide +kernel
theorem dX7_benches_12 : decode cX7_benches 12 = .ok (.iload_n 2, 1) := by decide +kernel
theorem dX7_benches_13 : decode cX7_benches 13 = .ok (.invokevirtual 202, 3) := by decide +kernel
theorem dX7_benches_16 : decode cX7_benches 16 = .ok (.ifCond .eq 7, 3) := by decide +kernel
theorem dX7_benches_19 : decode cX7_benches 19 = .ok (.iconst 1, 1) := by decide +kernel
theorem dX7_benches_20 : decode cX7_benches 20 = .ok (.goto 4, 3) := by decide +kernel
theorem dX7_benches_23 : decode cX7_benches 23 = .ok (.iconst 0, 1) := by decide +kernel
theorem dX7_benches_24 : decode cX7_benches 24 = .ok (.iadd, 1) := by decide +kernel
theorem dX7_benches_25 : decode cX7_benches 25 = .ok (.istore_n 1, 1) := by decide +kernel
theorem dX7_benches_26 : decode cX7_benches 26 = .ok (.iinc 2 1, 3) := by decide +kernel
theorem dX7_benches_29 : decode cX7_benches 29 = .ok (.goto (-25), 3) := by decide +kernel
theorem dX7_benches_32 : decode cX7_benches 32 = .ok (.iload_n 1, 1) := by decide +kernel
theorem dX7_benches_33 : decode cX7_benches 33 = .ok (.ireturn, 1) := by decide +kernel
set_option maxRecDepth 20000 in
theorem ggX7_go_X7_within : GoodIn wsX7_go wsX7_within := goodIn_r _ [8] (by decide +kernel) (by decide +kernel)
set_option maxRecDepth 20000 in
theorem gX7_go_X7_within : GoodIn wsX7_go (va_wsS RX7 105 yX7_within wsX7_within) := goodIn_app (goodIn_of _ (by decide +kernel)) ggX7_go_X7_within
set_option maxRecDepth 20000 in
theorem ggX7_go_X7_finding : GoodIn wsX7_go wsX7_finding := goodIn_r _ [12, 13, 1, 87, 88, 89, 90, 91, 92, 93, 94, 95, 96, 97, 98, 99, 100, 101, 102, 103, 104, 105, 106, 107, 108, 109, 110, 111, 112, 113] (by decide +kernel) (by decide +kernel)
set_option maxRecDepth 20000 in
theorem gX7_go_X7_finding : GoodIn wsX7_go (wsV RX7 101 RX7 yX7_finding wsX7_finding) := goodIn_app (goodIn_of _ (by decide +kernel)) ggX7_go_X7_finding
set_option maxRecDepth 20000 in
theorem ggX7_go_X7_seasons : GoodIn wsX7_go wsX7_seasons := goodIn_r _ [17, 18, 19, 20, 7, 21, 2, 22, 23, 24, 25, 26, 27, 28, 29, 30, 31, 32, 33, 34, 35, 36, 37, 38, 39, 40, 41, 42, 43, 44, 45, 46, 47, 48, 49, 50, 51, 52, 53, 54, 55, 56, 57, 58, 59, 60, 61, 62, 63, 64, 65, 66, 67, 68, 69, 70, 71, 72, 73, 74, 75, 76, 77, 78, 87, 88, 89, 90, 91, 92, 93, 94, 95, 96, 97, 98, 99, 100, 101, 102, 103, 104, 105, 106, 107, 108, 109, 110, 111, 112, 113] (by decide +kernel) (by decide +kernel)
set_option maxRecDepth 20000 in
theorem gX7_go_X7_seasons : GoodIn wsX7_go (wsV RX7 206 RX7 yX7_seasons wsX7_seasons) := goodIn_app (goodIn_of _ (by decide +kernel)) ggX7_go_X7_seasons
set_option maxRecDepth 20000 in
theorem ggX7_go_X7_pathsNow : GoodIn wsX7_go wsX7_pathsNow := goodIn_r _ [82, 83, 84, 85, 7, 86, 2, 87, 88, 89, 90, 91, 92, 93, 94, 95, 96, 97, 98, 99, 100, 101, 102, 103, 104, 105, 106, 107, 108, 109, 110, 111, 112, 113] (by decide +kernel) (by decide +kernel)
set_option maxRecDepth 20000 in
theorem gX7_go_X7_pathsNow : GoodIn wsX7_go (wsV RX7 209 RX7 yX7_pathsNow wsX7_pathsNow) := goodIn_app (goodIn_of _ (by decide +kernel)) ggX7_go_X7_pathsNow
theorem dX7_go_0 : decode cX7_go 0 = .ok (.iload_n 1, 1) := by decide +kernel
theorem dX7_go_1 : decode cX7_go 1 = .ok (.iconst 1, 1) := by decide +kernel
theorem dX7_go_2 : decode cX7_go 2 = .ok (.bipush 40, 2) := by decide +kernel
theorem dX7_go_4 : decode cX7_go 4 = .ok (.invokestatic 105, 3) := by decide +kernel
theorem dX7_go_7 : decode cX7_go 7 = .ok (.ifCond .ne 10, 3) := by decide +kernel
theorem dX7_go_10 : decode cX7_go 10 = .ok (.aload_n 0, 1) := by decide +kernel
theorem dX7_go_11 : decode cX7_go 11 = .ok (.ldc 95, 2) := by decide +kernel
theorem dX7_go_13 : decode cX7_go 13 = .ok (.invokevirtual 101, 3) := by decide +kernel
theorem dX7_go_16 : decode cX7_go 16 = .ok (.ireturn, 1) := by decide +kernel
theorem dX7_go_17 : decode cX7_go 17 = .ok (.aload_n 0, 1) := by decide +kernel
theorem dX7_go_18 : decode cX7_go 18 = .ok (.getfield 9, 3) := by decide +kernel
theorem dX7_go_21 : decode cX7_go 21 = .ok (.iconst 0, 1) := by decide +kernel
theorem dX7_go_22 : decode cX7_go 22 = .ok (.iaload, 1) := by decide +kernel
theorem dX7_go_23 : decode cX7_go 23 = .ok (.iload_n 1, 1) := by decide +kernel
theorem dX7_go_24 : decode cX7_go 24 = .ok (.iadd, 1) := by decide +kernel
theorem dX7_go_25 : decode cX7_go 25 = .ok (.ldc 205, 2) := by decide +kernel
theorem dX7_go_27 : decode cX7_go 27 = .ok (.if_icmp .le 10, 3) := by decide +kernel
theorem dX7_go_30 : decode cX7_go 30 = .ok (.aload_n 0, 1) := by decide +kernel
theorem dX7_go_31 : decode cX7_go 31 = .ok (.ldc 144, 2) := by decide +kernel
theorem dX7_go_33 : decode cX7_go 33 = .ok (.invokevirtual 101, 3) := by decide +kernel
theorem dX7_go_36 : decode cX7_go 36 = .ok (.ireturn, 1) := by decide +kernel
theorem dX7_go_37 : decode cX7_go 37 = .ok (.aload_n 0, 1) := by decide +kernel
theorem dX7_go_38 : decode cX7_go 38 = .ok (.iload_n 1, 1) := by decide +kernel
theorem dX7_go_39 : decode cX7_go 39 = .ok (.invokevirtual 206, 3) := by decide +kernel
theorem dX7_go_42 : decode cX7_go 42 = .ok (.aload_n 0, 1) := by decide +kernel
theorem dX7_go_43 : decode cX7_go 43 = .ok (.invokevirtual 209, 3) := by decide +kernel
theorem dX7_go_46 : decode cX7_go 46 = .ok (.ireturn, 1) := by decide +kernel
set_option maxRecDepth 20000 in
theorem ggX7_now_X7_pathsNow : GoodIn wsX7_now wsX7_pathsNow := goodIn_r _ [7, 8, 9, 10, 6, 11, 1, 52, 53, 54, 55, 56, 57, 58, 59, 60, 61, 62, 63, 64, 65, 66, 67, 68, 69, 70, 71, 72, 73, 74, 75, 76, 77, 78] (by decide +kernel) (by decide +kernel)
set_option maxRecDepth 20000 in
theorem gX7_now_X7_pathsNow : GoodIn wsX7_now (wsV RX7 209 RX7 yX7_pathsNow wsX7_pathsNow) := goodIn_app (goodIn_of _ (by decide +kernel)) ggX7_now_X7_pathsNow
set_option maxRecDepth 20000 in
theorem ggX7_now_X7_aliveNow : GoodIn wsX7_now wsX7_aliveNow := goodIn_r _ [15, 1, 16, 17, 18, 6, 19, 20, 21, 22, 23, 24, 25, 26, 27, 52, 53, 54, 55, 56, 57, 58, 59, 60, 61, 62, 63, 64, 65, 66, 67, 68, 69, 70, 71, 72, 73, 74, 75, 76, 77, 78] (by decide +kernel) (by decide +kernel)
set_option maxRecDepth 20000 in
theorem gX7_now_X7_aliveNow : GoodIn wsX7_now (wsV RX7 213 RX7 yX7_aliveNow wsX7_aliveNow) := goodIn_app (goodIn_of _ (by decide +kernel)) ggX7_now_X7_aliveNow
set_option maxRecDepth 20000 in
theorem ggX7_now_X7_pathSum : GoodIn wsX7_now wsX7_pathSum := goodIn_r _ [31, 1, 52, 53, 54, 55, 56, 57, 58, 59, 60, 61, 62, 63, 64, 65, 66, 67, 68, 69, 70, 71, 72, 73, 74, 75, 76, 77, 78] (by decide +kernel) (by decide +kernel)
set_option maxRecDepth 20000 in
theorem gX7_now_X7_pathSum : GoodIn wsX7_now (wsV RX7 216 RX7 yX7_pathSum wsX7_pathSum) := goodIn_app (goodIn_of _ (by decide +kernel)) ggX7_now_X7_pathSum
set_option maxRecDepth 20000 in
theorem ggX7_now_X7_benches : GoodIn wsX7_now wsX7_benches := goodIn_r _ [35, 36, 37, 38, 6, 39, 8, 9, 10, 11, 1, 40, 41, 42, 43, 44, 45, 46, 52, 53, 54, 55, 56, 57, 58, 59, 60, 61, 62, 63, 64, 65, 66, 67, 68, 69, 70, 71, 72, 73, 74, 75, 76, 77, 78] (by decide +kernel) (by decide +kernel)
set_option maxRecDepth 20000 in
theorem gX7_now_X7_benches : GoodIn wsX7_now (wsV RX7 219 RX7 yX7_benches wsX7_benches) := goodIn_app (goodIn_of _ (by decide +kernel)) ggX7_now_X7_benches
set_option maxRecDepth 20000 in
theorem ggX7_now_X7_finding : GoodIn wsX7_now wsX7_finding := goodIn_r _ [50, 51, 2, 52, 53, 54, 55, 56, 57, 58, 59, 60, 61, 62, 63, 64, 65, 66, 67, 68, 69, 70, 71, 72, 73, 74, 75, 76, 77, 78] (by decide +kernel) (by decide +kernel)
set_option maxRecDepth 20000 in
theorem gX7_now_X7_finding : GoodIn wsX7_now (wsV RX7 101 RX7 yX7_finding wsX7_finding) := goodIn_app (goodIn_of _ (by decide +kernel)) ggX7_now_X7_finding
theorem dX7_now_0 : decode cX7_now 0 = .ok (.iload_n 1, 1) := by decide +kernel
theorem dX7_now_1 : decode cX7_now 1 = .ok (.tableswitch 62 0 4 #[35, 42, 47, 52, 57], 35) := by decide +kernel
theorem dX7_now_36 : decode cX7_now 36 = .ok (.aload_n 0, 1) := by decide +kernel
theorem dX7_now_37 : decode cX7_now 37 = .ok (.getfield 9, 3) := by decide +kernel
theorem dX7_now_40 : decode cX7_now 40 = .ok (.iconst 0, 1) := by decide +kernel
theorem dX7_now_41 : decode cX7_now 41 = .ok (.iaload, 1) := by decide +kernel
theorem dX7_now_42 : decode cX7_now 42 = .ok (.ireturn, 1) := by decide +kernel
theorem dX7_now_43 : decode cX7_now 43 = .ok (.aload_n 0, 1) := by decide +kernel
theorem dX7_now_44 : decode cX7_now 44 = .ok (.invokevirtual 209, 3) := by decide +kernel
theorem dX7_now_47 : decode cX7_now 47 = .ok (.ireturn, 1) := by decide +kernel
theorem dX7_now_48 : decode cX7_now 48 = .ok (.aload_n 0, 1) := by decide +kernel
theorem dX7_now_49 : decode cX7_now 49 = .ok (.invokevirtual 213, 3) := by decide +kernel
theorem dX7_now_52 : decode cX7_now 52 = .ok (.ireturn, 1) := by decide +kernel
theorem dX7_now_53 : decode cX7_now 53 = .ok (.aload_n 0, 1) := by decide +kernel
theorem dX7_now_54 : decode cX7_now 54 = .ok (.invokevirtual 216, 3) := by decide +kernel
theorem dX7_now_57 : decode cX7_now 57 = .ok (.ireturn, 1) := by decide +kernel
theorem dX7_now_58 : decode cX7_now 58 = .ok (.aload_n 0, 1) := by decide +kernel
theorem dX7_now_59 : decode cX7_now 59 = .ok (.invokevirtual 219, 3) := by decide +kernel
theorem dX7_now_62 : decode cX7_now 62 = .ok (.ireturn, 1) := by decide +kernel
theorem dX7_now_63 : decode cX7_now 63 = .ok (.aload_n 0, 1) := by decide +kernel
theorem dX7_now_64 : decode cX7_now 64 = .ok (.ldc 95, 2) := by decide +kernel
theorem dX7_now_66 : decode cX7_now 66 = .ok (.invokevirtual 101, 3) := by decide +kernel
theorem dX7_now_69 : decode cX7_now 69 = .ok (.ireturn, 1) := by decide +kernel
set_option maxRecDepth 20000 in
theorem ggX7_pathSet_X7_hasPath : GoodIn wsX7_pathSet wsX7_hasPath := goodIn_r _ [5, 6, 7, 8, 9, 10, 11, 12, 13, 14, 15, 16, 17, 18, 19, 20, 21, 22, 23, 24, 25, 26, 27, 28, 29, 30, 31, 32, 33] (by decide +kernel) (by decide +kernel)
set_option maxRecDepth 20000 in
theorem gX7_pathSet_X7_hasPath : GoodIn wsX7_pathSet (wsV RX7 126 RX7 yX7_hasPath wsX7_hasPath) := goodIn_app (goodIn_of _ (by decide +kernel)) ggX7_pathSet_X7_hasPath
theorem dX7_pathSet_0 : decode cX7_pathSet 0 = .ok (.lconst 0, 1) := by decide +kernel
theorem dX7_pathSet_1 : decode cX7_pathSet 1 = .ok (.lstore_n 1, 1) := by decide +kernel
theorem dX7_pathSet_2 : decode cX7_pathSet 2 = .ok (.iconst 0, 1) := by decide +kernel
theorem dX7_pathSet_3 : decode cX7_pathSet 3 = .ok (.istore_n 3, 1) := by decide +kernel
theorem dX7_pathSet_4 : decode cX7_pathSet 4 = .ok (.iload_n 3, 1) := by decide +kernel
theorem dX7_pathSet_5 : decode cX7_pathSet 5 = .ok (.bipush 36, 2) := by decide +kernel
theorem dX7_pathSet_7 : decode cX7_pathSet 7 = .ok (.if_icmp .ge 27, 3) := by decide +kernel
theorem dX7_pathSet_10 : decode cX7_pathSet 10 = .ok (.lload_n 1, 1) := by decide +kernel
theorem dX7_pathSet_11 : decode cX7_pathSet 11 = .ok (.aload_n 0, 1) := by decide +kernel
theorem dX7_pathSet_12 : decode cX7_pathSet 12 = .ok (.iload_n 3, 1) := by decide +kernel
theorem dX7_pathSet_13 : decode cX7_pathSet 13 = .ok (.invokevirtual 126, 3) := by decide +kernel
theorem dX7_pathSet_16 : decode cX7_pathSet 16 = .ok (.ifCond .eq 9, 3) := by decide +kernel
theorem dX7_pathSet_19 : decode cX7_pathSet 19 = .ok (.lconst 1, 1) := by decide +kernel
theorem dX7_pathSet_20 : decode cX7_pathSet 20 = .ok (.iload_n 3, 1) := by decide +kernel
theorem dX7_pathSet_21 : decode cX7_pathSet 21 = .ok (.lshl, 1) := by decide +kernel
theorem dX7_pathSet_22 : decode cX7_pathSet 22 = .ok (.goto 4, 3) := by decide +kernel
theorem dX7_pathSet_25 : decode cX7_pathSet 25 = .ok (.lconst 0, 1) := by decide +kernel
theorem dX7_pathSet_26 : decode cX7_pathSet 26 = .ok (.lor, 1) := by decide +kernel
theorem dX7_pathSet_27 : decode cX7_pathSet 27 = .ok (.lstore_n 1, 1) := by decide +kernel
theorem dX7_pathSet_28 : decode cX7_pathSet 28 = .ok (.iinc 3 1, 3) := by decide +kernel
theorem dX7_pathSet_31 : decode cX7_pathSet 31 = .ok (.goto (-27), 3) := by decide +kernel
theorem dX7_pathSet_34 : decode cX7_pathSet 34 = .ok (.lload_n 1, 1) := by decide +kernel
theorem dX7_pathSet_35 : decode cX7_pathSet 35 = .ok (.lreturn, 1) := by decide +kernel
set_option maxRecDepth 20000 in
theorem ggX7_where_X7_within : GoodIn wsX7_where wsX7_within := goodIn_r _ [6] (by decide +kernel) (by decide +kernel)
set_option maxRecDepth 20000 in
theorem gX7_where_X7_within : GoodIn wsX7_where (va_wsS RX7 105 yX7_within wsX7_within) := goodIn_app (goodIn_of _ (by decide +kernel)) ggX7_where_X7_within
set_option maxRecDepth 20000 in
theorem ggX7_where_X7_finding : GoodIn wsX7_where wsX7_finding := goodIn_r _ [10, 11, 1, 27, 28, 29, 30, 31, 32, 33, 34, 35, 36, 37, 38, 39, 40, 41, 42, 43, 44, 45, 46, 47, 48, 49, 50, 51, 52, 53] (by decide +kernel) (by decide +kernel)
set_option maxRecDepth 20000 in
theorem gX7_where_X7_finding : GoodIn wsX7_where (wsV RX7 101 RX7 yX7_finding wsX7_finding) := goodIn_app (goodIn_of _ (by decide +kernel)) ggX7_where_X7_finding
set_option maxRecDepth 20000 in
theorem ggX7_where_X7_hasPath : GoodIn wsX7_where wsX7_hasPath := goodIn_r _ [15, 2, 27, 28, 29, 30, 31, 32, 33, 34, 35, 36, 37, 38, 39, 40, 41, 42, 43, 44, 45, 46, 47, 48, 49, 50, 51, 52, 53] (by decide +kernel) (by decide +kernel)
set_option maxRecDepth 20000 in
theorem gX7_where_X7_hasPath : GoodIn wsX7_where (wsV RX7 126 RX7 yX7_hasPath wsX7_hasPath) := goodIn_app (goodIn_of _ (by decide +kernel)) ggX7_where_X7_hasPath
set_option maxRecDepth 20000 in
theorem ggX7_where_X7_isBench : GoodIn wsX7_where wsX7_isBench := goodIn_r _ [19, 12, 13, 14, 5, 15, 2, 20, 21, 22, 23, 24, 25, 26, 27, 28, 29, 30, 31, 32, 33, 34, 35, 36, 37, 38, 39, 40, 41, 42, 43, 44, 45, 46, 47, 48, 49, 50, 51, 52, 53] (by decide +kernel) (by decide +kernel)
set_option maxRecDepth 20000 in
theorem gX7_where_X7_isBench : GoodIn wsX7_where (wsV RX7 202 RX7 yX7_isBench wsX7_isBench) := goodIn_app (goodIn_of _ (by decide +kernel)) ggX7_where_X7_isBench
theorem dX7_where_0 : decode cX7_where 0 = .ok (.iload_n 1, 1) := by decide +kernel
theorem dX7_where_1 : decode cX7_where 1 = .ok (.iconst 0, 1) := by decide +kernel
theorem dX7_where_2 : decode cX7_where 2 = .ok (.iconst 3, 1) := by decide +kernel
theorem dX7_where_3 : decode cX7_where 3 = .ok (.invokestatic 105, 3) := by decide +kernel
theorem dX7_where_6 : decode cX7_where 6 = .ok (.ifCond .ne 11, 3) := by decide +kernel
theorem dX7_where_9 : decode cX7_where 9 = .ok (.aload_n 0, 1) := by decide +kernel
theorem dX7_where_10 : decode cX7_where 10 = .ok (.ldc 95, 2) := by decide +kernel
theorem dX7_where_12 : decode cX7_where 12 = .ok (.invokevirtual 101, 3) := by decide +kernel
theorem dX7_where_15 : decode cX7_where 15 = .ok (.i2l, 1) := by decide +kernel
theorem dX7_where_16 : decode cX7_where 16 = .ok (.lreturn, 1) := by decide +kernel
theorem dX7_where_17 : decode cX7_where 17 = .ok (.lconst 0, 1) := by decide +kernel
theorem dX7_where_18 : decode cX7_where 18 = .ok (.lstore_n 2, 1) := by decide +kernel
theorem dX7_where_19 : decode cX7_where 19 = .ok (.iconst 0, 1) := by decide +kernel
theorem dX7_where_20 : decode cX7_where 20 = .ok (.istore 4, 2) := by decide +kernel
theorem dX7_where_22 : decode cX7_where 22 = .ok (.iload 4, 2) := by decide +kernel
theorem dX7_where_24 : decode cX7_where 24 = .ok (.bipush 36, 2) := by decide +kernel
theorem dX7_where_26 : decode cX7_where 26 = .ok (.if_icmp .ge 73, 3) := by decide +kernel
theorem dX7_where_29 : decode cX7_where 29 = .ok (.iload_n 1, 1) := by decide +kernel
theorem dX7_where_30 : decode cX7_where 30 = .ok (.ifCond .ne 12, 3) := by decide +kernel
theorem dX7_where_33 : decode cX7_where 33 = .ok (.aload_n 0, 1) := by decide +kernel
theorem dX7_where_34 : decode cX7_where 34 = .ok (.iload 4, 2) := by decide +kernel
theorem dX7_where_36 : decode cX7_where 36 = .ok (.invokevirtual 126, 3) := by decide +kernel
theorem dX7_where_39 : decode cX7_where 39 = .ok (.goto 36, 3) := by decide +kernel
theorem dX7_where_42 : decode cX7_where 42 = .ok (.iload_n 1, 1) := by decide +kernel
theorem dX7_where_43 : decode cX7_where 43 = .ok (.iconst 3, 1) := by decide +kernel
theorem dX7_where_44 : decode cX7_where 44 = .ok (.if_icmp .ne 12, 3) := by decide +kernel
theorem dX7_where_47 : decode cX7_where 47 = .ok (.aload_n 0, 1) := by decide +kernel
theorem dX7_where_48 : decode cX7_where 48 = .ok (.iload 4, 2) := by decide +kernel
theorem dX7_where_50 : decode cX7_where 50 = .ok (.invokevirtual 202, 3) := by decide +kernel
theorem dX7_where_53 : decode cX7_where 53 = .ok (.goto 22, 3) := by decide +kernel
theorem dX7_where_56 : decode cX7_where 56 = .ok (.aload_n 0, 1) := by decide +kernel
theorem dX7_where_57 : decode cX7_where 57 = .ok (.getfield 9, 3) := by decide +kernel
theorem dX7_where_60 : decode cX7_where 60 = .ok (.bipush 13, 2) := by decide +kernel
theorem dX7_where_62 : decode cX7_where 62 = .ok (.iload 4, 2) := by decide +kernel
theorem dX7_where_64 : decode cX7_where 64 = .ok (.iadd, 1) := by decide +kernel
theorem dX7_where_65 : decode cX7_where 65 = .ok (.iaload, 1) := by decide +kernel
theorem dX7_where_66 : decode cX7_where 66 = .ok (.iload_n 1, 1) := by decide +kernel
theorem dX7_where_67 : decode cX7_where 67 = .ok (.if_icmp .ne 7, 3) := by decide +kernel
theorem dX7_where_70 : decode cX7_where 70 = .ok (.iconst 1, 1) := by decide +kernel
theorem dX7_where_71 : decode cX7_where 71 = .ok (.goto 4, 3) := by decide +kernel
theorem dX7_where_74 : decode cX7_where 74 = .ok (.iconst 0, 1) := by decide +kernel
theorem dX7_where_75 : decode cX7_where 75 = .ok (.istore 5, 2) := by decide +kernel
theorem dX7_where_77 : decode cX7_where 77 = .ok (.lload_n 2, 1) := by decide +kernel
theorem dX7_where_78 : decode cX7_where 78 = .ok (.iload 5, 2) := by decide +kernel
theorem dX7_where_80 : decode cX7_where 80 = .ok (.ifCond .eq 10, 3) := by decide +kernel
theorem dX7_where_83 : decode cX7_where 83 = .ok (.lconst 1, 1) := by decide +kernel
theorem dX7_where_84 : decode cX7_where 84 = .ok (.iload 4, 2) := by decide +kernel
theorem dX7_where_86 : decode cX7_where 86 = .ok (.lshl, 1) := by decide +kernel
theorem dX7_where_87 : decode cX7_where 87 = .ok (.goto 4, 3) := by decide +kernel
theorem dX7_where_90 : decode cX7_where 90 = .ok (.lconst 0, 1) := by decide +kernel
theorem dX7_where_91 : decode cX7_where 91 = .ok (.lor, 1) := by decide +kernel
theorem dX7_where_92 : decode cX7_where 92 = .ok (.lstore_n 2, 1) := by decide +kernel
theorem dX7_where_93 : decode cX7_where 93 = .ok (.iinc 4 1, 3) := by decide +kernel
theorem dX7_where_96 : decode cX7_where 96 = .ok (.goto (-74), 3) := by decide +kernel
theorem dX7_where_99 : decode cX7_where 99 = .ok (.lload_n 2, 1) := by decide +kernel
theorem dX7_where_100 : decode cX7_where 100 = .ok (.lreturn, 1) := by decide +kernel
set_option maxRecDepth 20000 in
theorem ggX7_walk_X7_hasPath : GoodIn wsX7_walk wsX7_hasPath := goodIn_r _ [7, 8, 12, 13, 14, 15, 16, 17, 18, 19, 20, 21, 22, 23, 24, 25, 26, 27, 28, 29, 30, 31, 32, 33, 34, 35, 36, 37, 38] (by decide +kernel) (by decide +kernel)
set_option maxRecDepth 20000 in
theorem gX7_walk_X7_hasPath : GoodIn wsX7_walk (wsV RX7 126 RX7 yX7_hasPath wsX7_hasPath) := goodIn_app (goodIn_of _ (by decide +kernel)) ggX7_walk_X7_hasPath
set_option maxRecDepth 20000 in
theorem ggX7_walk_X7_beside : GoodIn wsX7_walk wsX7_beside := goodIn_r _ [11] (by decide +kernel) (by decide +kernel)
set_option maxRecDepth 20000 in
theorem gX7_walk_X7_beside : GoodIn wsX7_walk (va_wsS RX7 123 yX7_beside wsX7_beside) := goodIn_app (goodIn_of _ (by decide +kernel)) ggX7_walk_X7_beside
theorem dX7_walk_0 : decode cX7_walk 0 = .ok (.iconst 0, 1) := by decide +kernel
theorem dX7_walk_1 : decode cX7_walk 1 = .ok (.istore_n 2, 1) := by decide +kernel
theorem dX7_walk_2 : decode cX7_walk 2 = .ok (.iload_n 2, 1) := by decide +kernel
theorem dX7_walk_3 : decode cX7_walk 3 = .ok (.bipush 36, 2) := by decide +kernel
theorem dX7_walk_5 : decode cX7_walk 5 = .ok (.if_icmp .ge 16, 3) := by decide +kernel
theorem dX7_walk_8 : decode cX7_walk 8 = .ok (.aload_n 0, 1) := by decide +kernel
theorem dX7_walk_9 : decode cX7_walk 9 = .ok (.getfield 22, 3) := by decide +kernel
theorem dX7_walk_12 : decode cX7_walk 12 = .ok (.iload_n 2, 1) := by decide +kernel
theorem dX7_walk_13 : decode cX7_walk 13 = .ok (.iconst (-1), 1) := by decide +kernel
theorem dX7_walk_14 : decode cX7_walk 14 = .ok (.iastore, 1) := by decide +kernel
theorem dX7_walk_15 : decode cX7_walk 15 = .ok (.iinc 2 1, 3) := by decide +kernel
theorem dX7_walk_18 : decode cX7_walk 18 = .ok (.goto (-16), 3) := by decide +kernel
theorem dX7_walk_21 : decode cX7_walk 21 = .ok (.iconst 0, 1) := by decide +kernel
theorem dX7_walk_22 : decode cX7_walk 22 = .ok (.istore_n 2, 1) := by decide +kernel
theorem dX7_walk_23 : decode cX7_walk 23 = .ok (.aload_n 0, 1) := by decide +kernel
theorem dX7_walk_24 : decode cX7_walk 24 = .ok (.iload_n 1, 1) := by decide +kernel
theorem dX7_walk_25 : decode cX7_walk 25 = .ok (.invokevirtual 126, 3) := by decide +kernel
theorem dX7_walk_28 : decode cX7_walk 28 = .ok (.ifCond .eq 19, 3) := by decide +kernel
theorem dX7_walk_31 : decode cX7_walk 31 = .ok (.aload_n 0, 1) := by decide +kernel
theorem dX7_walk_32 : decode cX7_walk 32 = .ok (.getfield 22, 3) := by decide +kernel
theorem dX7_walk_35 : decode cX7_walk 35 = .ok (.iload_n 1, 1) := by decide +kernel
theorem dX7_walk_36 : decode cX7_walk 36 = .ok (.iconst 0, 1) := by decide +kernel
theorem dX7_walk_37 : decode cX7_walk 37 = .ok (.iastore, 1) := by decide +kernel
theorem dX7_walk_38 : decode cX7_walk 38 = .ok (.aload_n 0, 1) := by decide +kernel
theorem dX7_walk_39 : decode cX7_walk 39 = .ok (.getfield 25, 3) := by decide +kernel
theorem dX7_walk_42 : decode cX7_walk 42 = .ok (.iconst 0, 1) := by decide +kernel
theorem dX7_walk_43 : decode cX7_walk 43 = .ok (.iload_n 1, 1) := by decide +kernel
theorem dX7_walk_44 : decode cX7_walk 44 = .ok (.iastore, 1) := by decide +kernel
theorem dX7_walk_45 : decode cX7_walk 45 = .ok (.iconst 1, 1) := by decide +kernel
theorem dX7_walk_46 : decode cX7_walk 46 = .ok (.istore_n 2, 1) := by decide +kernel
theorem dX7_walk_47 : decode cX7_walk 47 = .ok (.iconst 0, 1) := by decide +kernel
theorem dX7_walk_48 : decode cX7_walk 48 = .ok (.istore_n 3, 1) := by decide +kernel
theorem dX7_walk_49 : decode cX7_walk 49 = .ok (.iload_n 3, 1) := by decide +kernel
theorem dX7_walk_50 : decode cX7_walk 50 = .ok (.iload_n 2, 1) := by decide +kernel
theorem dX7_walk_51 : decode cX7_walk 51 = .ok (.if_icmp .ge 92, 3) := by decide +kernel
theorem dX7_walk_54 : decode cX7_walk 54 = .ok (.iconst 0, 1) := by decide +kernel
theorem dX7_walk_55 : decode cX7_walk 55 = .ok (.istore 4, 2) := by decide +kernel
theorem dX7_walk_57 : decode cX7_walk 57 = .ok (.iload 4, 2) := by decide +kernel
theorem dX7_walk_59 : decode cX7_walk 59 = .ok (.iconst 4, 1) := by decide +kernel
theorem dX7_walk_60 : decode cX7_walk 60 = .ok (.if_icmp .ge 77, 3) := by decide +kernel
theorem dX7_walk_63 : decode cX7_walk 63 = .ok (.aload_n 0, 1) := by decide +kernel
theorem dX7_walk_64 : decode cX7_walk 64 = .ok (.getfield 25, 3) := by decide +kernel
theorem dX7_walk_67 : decode cX7_walk 67 = .ok (.iload_n 3, 1) := by decide +kernel
theorem dX7_walk_68 : decode cX7_walk 68 = .ok (.iaload, 1) := by decide +kernel
theorem dX7_walk_69 : decode cX7_walk 69 = .ok (.iload 4, 2) := by decide +kernel
theorem dX7_walk_71 : decode cX7_walk 71 = .ok (.invokestatic 123, 3) := by decide +kernel
theorem dX7_walk_74 : decode cX7_walk 74 = .ok (.istore 5, 2) := by decide +kernel
theorem dX7_walk_76 : decode cX7_walk 76 = .ok (.iload 5, 2) := by decide +kernel
theorem dX7_walk_78 : decode cX7_walk 78 = .ok (.ifCond .lt 53, 3) := by decide +kernel
theorem dX7_walk_81 : decode cX7_walk 81 = .ok (.aload_n 0, 1) := by decide +kernel
theorem dX7_walk_82 : decode cX7_walk 82 = .ok (.iload 5, 2) := by decide +kernel
theorem dX7_walk_84 : decode cX7_walk 84 = .ok (.invokevirtual 126, 3) := by decide +kernel
theorem dX7_walk_87 : decode cX7_walk 87 = .ok (.ifCond .eq 44, 3) := by decide +kernel
theorem dX7_walk_90 : decode cX7_walk 90 = .ok (.aload_n 0, 1) := by decide +kernel
theorem dX7_walk_91 : decode cX7_walk 91 = .ok (.getfield 22, 3) := by decide +kernel
theorem dX7_walk_94 : decode cX7_walk 94 = .ok (.iload 5, 2) := by decide +kernel
theorem dX7_walk_96 : decode cX7_walk 96 = .ok (.iaload, 1) := by decide +kernel
theorem dX7_walk_97 : decode cX7_walk 97 = .ok (.ifCond .ge 34, 3) := by decide +kernel
theorem dX7_walk_100 : decode cX7_walk 100 = .ok (.aload_n 0, 1) := by decide +kernel
theorem dX7_walk_101 : decode cX7_walk 101 = .ok (.getfield 22, 3) := by decide +kernel
theorem dX7_walk_104 : decode cX7_walk 104 = .ok (.iload 5, 2) := by decide +kernel
theorem dX7_walk_106 : decode cX7_walk 106 = .ok (.aload_n 0, 1) := by decide +kernel
theorem dX7_walk_107 : decode cX7_walk 107 = .ok (.getfield 22, 3) := by decide +kernel
theorem dX7_walk_110 : decode cX7_walk 110 = .ok (.aload_n 0, 1) := by decide +kernel
theorem dX7_walk_111 : decode cX7_walk 111 = .ok (.getfield 25, 3) := by decide +kernel
theorem dX7_walk_114 : decode cX7_walk 114 = .ok (.iload_n 3, 1) := by decide +kernel
theorem dX7_walk_115 : decode cX7_walk 115 = .ok (.iaload, 1) := by decide +kernel
theorem dX7_walk_116 : decode cX7_walk 116 = .ok (.iaload, 1) := by decide +kernel
theorem dX7_walk_117 : decode cX7_walk 117 = .ok (.iconst 1, 1) := by decide +kernel
theorem dX7_walk_118 : decode cX7_walk 118 = .ok (.iadd, 1) := by decide +kernel
theorem dX7_walk_119 : decode cX7_walk 119 = .ok (.iastore, 1) := by decide +kernel
theorem dX7_walk_120 : decode cX7_walk 120 = .ok (.aload_n 0, 1) := by decide +kernel
theorem dX7_walk_121 : decode cX7_walk 121 = .ok (.getfield 25, 3) := by decide +kernel
theorem dX7_walk_124 : decode cX7_walk 124 = .ok (.iload_n 2, 1) := by decide +kernel
theorem dX7_walk_125 : decode cX7_walk 125 = .ok (.iload 5, 2) := by decide +kernel
theorem dX7_walk_127 : decode cX7_walk 127 = .ok (.iastore, 1) := by decide +kernel
theorem dX7_walk_128 : decode cX7_walk 128 = .ok (.iinc 2 1, 3) := by decide +kernel
theorem dX7_walk_131 : decode cX7_walk 131 = .ok (.iinc 4 1, 3) := by decide +kernel
theorem dX7_walk_134 : decode cX7_walk 134 = .ok (.goto (-77), 3) := by decide +kernel
theorem dX7_walk_137 : decode cX7_walk 137 = .ok (.iinc 3 1, 3) := by decide +kernel
theorem dX7_walk_140 : decode cX7_walk 140 = .ok (.goto (-91), 3) := by decide +kernel
theorem dX7_walk_143 : decode cX7_walk 143 = .ok (.return_, 1) := by decide +kernel
set_option maxRecDepth 20000 in
theorem ggX7_areJoined_X7_walk : GoodIn wsX7_areJoined wsX7_walk := goodIn_r _ [6, 1, 7, 8, 9, 10, 5, 11, 12, 13, 14, 15, 16, 17, 18, 19, 20, 21, 22, 23, 24, 25, 26, 27, 28, 29, 30, 31, 32, 33, 34, 35, 36, 37, 38, 39, 40, 41, 42] (by decide +kernel) (by decide +kernel)
set_option maxRecDepth 20000 in
theorem gX7_areJoined_X7_walk : GoodIn wsX7_areJoined (wsV RX7 222 RX7 yX7_walk wsX7_walk) := goodIn_app (goodIn_of _ (by decide +kernel)) ggX7_areJoined_X7_walk
theorem dX7_areJoined_0 : decode cX7_areJoined 0 = .ok (.aload_n 0, 1) := by decide +kernel
theorem dX7_areJoined_1 : decode cX7_areJoined 1 = .ok (.iload_n 1, 1) := by decide +kernel
theorem dX7_areJoined_2 : decode cX7_areJoined 2 = .ok (.invokevirtual 222, 3) := by decide +kernel
theorem dX7_areJoined_5 : decode cX7_areJoined 5 = .ok (.aload_n 0, 1) := by decide +kernel
theorem dX7_areJoined_6 : decode cX7_areJoined 6 = .ok (.getfield 22, 3) := by decide +kernel
theorem dX7_areJoined_9 : decode cX7_areJoined 9 = .ok (.iload_n 2, 1) := by decide +kernel
theorem dX7_areJoined_10 : decode cX7_areJoined 10 = .ok (.iaload, 1) := by decide +kernel
theorem dX7_areJoined_11 : decode cX7_areJoined 11 = .ok (.ifCond .lt 7, 3) := by decide +kernel
theorem dX7_areJoined_14 : decode cX7_areJoined 14 = .ok (.iconst 1, 1) := by decide +kernel
theorem dX7_areJoined_15 : decode cX7_areJoined 15 = .ok (.goto 4, 3) := by decide +kernel
theorem dX7_areJoined_18 : decode cX7_areJoined 18 = .ok (.iconst 0, 1) := by decide +kernel
theorem dX7_areJoined_19 : decode cX7_areJoined 19 = .ok (.ireturn, 1) := by decide +kernel
set_option maxRecDepth 20000 in
theorem ggX7_areCells_X7_isCell : GoodIn wsX7_areCells wsX7_isCell := goodIn_r _ [4, 5, 6, 3, 7] (by decide +kernel) (by decide +kernel)
set_option maxRecDepth 20000 in
theorem gX7_areCells_X7_isCell : GoodIn wsX7_areCells (va_wsS RX7 116 yX7_isCell wsX7_isCell) := goodIn_app (goodIn_of _ (by decide +kernel)) ggX7_areCells_X7_isCell
theorem dX7_areCells_0 : decode cX7_areCells 0 = .ok (.iload_n 0, 1) := by decide +kernel
theorem dX7_areCells_1 : decode cX7_areCells 1 = .ok (.invokestatic 116, 3) := by decide +kernel
theorem dX7_areCells_4 : decode cX7_areCells 4 = .ok (.ifCond .eq 14, 3) := by decide +kernel
theorem dX7_areCells_7 : decode cX7_areCells 7 = .ok (.iload_n 1, 1) := by decide +kernel
theorem dX7_areCells_8 : decode cX7_areCells 8 = .ok (.invokestatic 116, 3) := by decide +kernel
theorem dX7_areCells_11 : decode cX7_areCells 11 = .ok (.ifCond .eq 7, 3) := by decide +kernel
theorem dX7_areCells_14 : decode cX7_areCells 14 = .ok (.iconst 1, 1) := by decide +kernel
theorem dX7_areCells_15 : decode cX7_areCells 15 = .ok (.goto 4, 3) := by decide +kernel
theorem dX7_areCells_18 : decode cX7_areCells 18 = .ok (.iconst 0, 1) := by decide +kernel
theorem dX7_areCells_19 : decode cX7_areCells 19 = .ok (.ireturn, 1) := by decide +kernel
set_option maxRecDepth 20000 in
theorem ggX7_way_X7_areCells : GoodIn wsX7_way wsX7_areCells := goodIn_r _ [6, 7, 8, 5, 9, 10, 11, 12] (by decide +kernel) (by decide +kernel)
set_option maxRecDepth 20000 in
theorem gX7_way_X7_areCells : GoodIn wsX7_way (va_wsS RX7 225 yX7_areCells wsX7_areCells) := goodIn_app (goodIn_of _ (by decide +kernel)) ggX7_way_X7_areCells
set_option maxRecDepth 20000 in
theorem ggX7_way_X7_finding : GoodIn wsX7_way wsX7_finding := goodIn_r _ [16, 17, 1, 36, 37, 38, 39, 40, 41, 42, 43, 44, 45, 46, 47, 48, 49, 50, 51, 52, 53, 54, 55, 56, 57, 58, 59, 60, 61, 62] (by decide +kernel) (by decide +kernel)
set_option maxRecDepth 20000 in
theorem gX7_way_X7_finding : GoodIn wsX7_way (wsV RX7 101 RX7 yX7_finding wsX7_finding) := goodIn_app (goodIn_of _ (by decide +kernel)) ggX7_way_X7_finding
set_option maxRecDepth 20000 in
theorem ggX7_way_X7_walk : GoodIn wsX7_way wsX7_walk := goodIn_r _ [21, 2, 22, 23, 24, 25, 5, 26, 27, 28, 29, 30, 36, 37, 38, 39, 40, 41, 42, 43, 44, 45, 46, 47, 48, 49, 50, 51, 52, 53, 54, 55, 56, 57, 58, 59, 60, 61, 62] (by decide +kernel) (by decide +kernel)
set_option maxRecDepth 20000 in
theorem gX7_way_X7_walk : GoodIn wsX7_way (wsV RX7 222 RX7 yX7_walk wsX7_walk) := goodIn_app (goodIn_of _ (by decide +kernel)) ggX7_way_X7_walk
set_option maxRecDepth 20000 in
theorem ggX7_way_X7_orNone : GoodIn wsX7_way wsX7_orNone := goodIn_r _ [34, 35, 13, 14, 15, 5, 16, 17, 1, 36, 37, 38, 39, 40, 41, 42, 43, 44, 45, 46, 47, 48, 49, 50, 51, 52, 53, 54, 55, 56, 57, 58, 59, 60, 61, 62] (by decide +kernel) (by decide +kernel)
set_option maxRecDepth 20000 in
theorem gX7_way_X7_orNone : GoodIn wsX7_way (wsV RX7 228 RX7 yX7_orNone wsX7_orNone) := goodIn_app (goodIn_of _ (by decide +kernel)) ggX7_way_X7_orNone
theorem dX7_way_0 : decode cX7_way 0 = .ok (.iload_n 1, 1) := by decide +kernel
theorem dX7_way_1 : decode cX7_way 1 = .ok (.iload_n 2, 1) := by decide +kernel
theorem dX7_way_2 : decode cX7_way 2 = .ok (.invokestatic 225, 3) := by decide +kernel
theorem dX7_way_5 : decode cX7_way 5 = .ok (.ifCond .ne 10, 3) := by decide +kernel
theorem dX7_way_8 : decode cX7_way 8 = .ok (.aload_n 0, 1) := by decide +kernel
theorem dX7_way_9 : decode cX7_way 9 = .ok (.ldc 95, 2) := by decide +kernel
theorem dX7_way_11 : decode cX7_way 11 = .ok (.invokevirtual 101, 3) := by decide +kernel
theorem dX7_way_14 : decode cX7_way 14 = .ok (.ireturn, 1) := by decide +kernel
theorem dX7_way_15 : decode cX7_way 15 = .ok (.aload_n 0, 1) := by decide +kernel
theorem dX7_way_16 : decode cX7_way 16 = .ok (.iload_n 1, 1) := by decide +kernel
theorem dX7_way_17 : decode cX7_way 17 = .ok (.invokevirtual 222, 3) := by decide +kernel
theorem dX7_way_20 : decode cX7_way 20 = .ok (.aload_n 0, 1) := by decide +kernel
theorem dX7_way_21 : decode cX7_way 21 = .ok (.aload_n 0, 1) := by decide +kernel
theorem dX7_way_22 : decode cX7_way 22 = .ok (.getfield 22, 3) := by decide +kernel
theorem dX7_way_25 : decode cX7_way 25 = .ok (.iload_n 2, 1) := by decide +kernel
theorem dX7_way_26 : decode cX7_way 26 = .ok (.iaload, 1) := by decide +kernel
theorem dX7_way_27 : decode cX7_way 27 = .ok (.invokevirtual 228, 3) := by decide +kernel
theorem dX7_way_30 : decode cX7_way 30 = .ok (.ireturn, 1) := by decide +kernel
set_option maxRecDepth 20000 in
theorem ggX7_joined_X7_isCell : GoodIn wsX7_joined wsX7_isCell := goodIn_r _ [6, 7, 8, 5, 9] (by decide +kernel) (by decide +kernel)
set_option maxRecDepth 20000 in
theorem gX7_joined_X7_isCell : GoodIn wsX7_joined (va_wsS RX7 116 yX7_isCell wsX7_isCell) := goodIn_app (goodIn_of _ (by decide +kernel)) ggX7_joined_X7_isCell
set_option maxRecDepth 20000 in
theorem ggX7_joined_X7_finding : GoodIn wsX7_joined wsX7_finding := goodIn_r _ [13, 14, 1, 28, 29, 30, 31, 32, 33, 34, 35, 36, 37, 38, 39, 40, 41, 42, 43, 44, 45, 46, 47, 48, 49, 50, 51, 52, 53, 54] (by decide +kernel) (by decide +kernel)
set_option maxRecDepth 20000 in
theorem gX7_joined_X7_finding : GoodIn wsX7_joined (wsV RX7 101 RX7 yX7_finding wsX7_finding) := goodIn_app (goodIn_of _ (by decide +kernel)) ggX7_joined_X7_finding
set_option maxRecDepth 20000 in
theorem ggX7_joined_X7_walk : GoodIn wsX7_joined wsX7_walk := goodIn_r _ [18, 2, 19, 20, 21, 22, 5, 23, 24, 25, 26, 27, 28, 29, 30, 31, 32, 33, 34, 35, 36, 37, 38, 39, 40, 41, 42, 43, 44, 45, 46, 47, 48, 49, 50, 51, 52, 53, 54] (by decide +kernel) (by decide +kernel)
set_option maxRecDepth 20000 in
theorem gX7_joined_X7_walk : GoodIn wsX7_joined (wsV RX7 222 RX7 yX7_walk wsX7_walk) := goodIn_app (goodIn_of _ (by decide +kernel)) ggX7_joined_X7_walk
theorem dX7_joined_0 : decode cX7_joined 0 = .ok (.iload_n 1, 1) := by decide +kernel
theorem dX7_joined_1 : decode cX7_joined 1 = .ok (.invokestatic 116, 3) := by decide +kernel
theorem dX7_joined_4 : decode cX7_joined 4 = .ok (.ifCond .ne 11, 3) := by decide +kernel
theorem dX7_joined_7 : decode cX7_joined 7 = .ok (.aload_n 0, 1) := by decide +kernel
theorem dX7_joined_8 : decode cX7_joined 8 = .ok (.ldc 95, 2) := by decide +kernel
theorem dX7_joined_10 : decode cX7_joined 10 = .ok (.invokevirtual 101, 3) := by decide +kernel
theorem dX7_joined_13 : decode cX7_joined 13 = .ok (.i2l, 1) := by decide +kernel
theorem dX7_joined_14 : decode cX7_joined 14 = .ok (.lreturn, 1) := by decide +kernel
theorem dX7_joined_15 : decode cX7_joined 15 = .ok (.aload_n 0, 1) := by decide +kernel
theorem dX7_joined_16 : decode cX7_joined 16 = .ok (.iload_n 1, 1) := by decide +kernel
theorem dX7_joined_17 : decode cX7_joined 17 = .ok (.invokevirtual 222, 3) := by decide +kernel
theorem dX7_joined_20 : decode cX7_joined 20 = .ok (.lconst 0, 1) := by decide +kernel
theorem dX7_joined_21 : decode cX7_joined 21 = .ok (.lstore_n 2, 1) := by decide +kernel
theorem dX7_joined_22 : decode cX7_joined 22 = .ok (.iconst 0, 1) := by decide +kernel
theorem dX7_joined_23 : decode cX7_joined 23 = .ok (.istore 4, 2) := by decide +kernel
theorem dX7_joined_25 : decode cX7_joined 25 = .ok (.iload 4, 2) := by decide +kernel
theorem dX7_joined_27 : decode cX7_joined 27 = .ok (.bipush 36, 2) := by decide +kernel
theorem dX7_joined_29 : decode cX7_joined 29 = .ok (.if_icmp .ge 30, 3) := by decide +kernel
theorem dX7_joined_32 : decode cX7_joined 32 = .ok (.lload_n 2, 1) := by decide +kernel
theorem dX7_joined_33 : decode cX7_joined 33 = .ok (.aload_n 0, 1) := by decide +kernel
theorem dX7_joined_34 : decode cX7_joined 34 = .ok (.getfield 22, 3) := by decide +kernel
theorem dX7_joined_37 : decode cX7_joined 37 = .ok (.iload 4, 2) := by decide +kernel
theorem dX7_joined_39 : decode cX7_joined 39 = .ok (.iaload, 1) := by decide +kernel
theorem dX7_joined_40 : decode cX7_joined 40 = .ok (.ifCond .lt 10, 3) := by decide +kernel
theorem dX7_joined_43 : decode cX7_joined 43 = .ok (.lconst 1, 1) := by decide +kernel
theorem dX7_joined_44 : decode cX7_joined 44 = .ok (.iload 4, 2) := by decide +kernel
theorem dX7_joined_46 : decode cX7_joined 46 = .ok (.lshl, 1) := by decide +kernel
theorem dX7_joined_47 : decode cX7_joined 47 = .ok (.goto 4, 3) := by decide +kernel
theorem dX7_joined_50 : decode cX7_joined 50 = .ok (.lconst 0, 1) := by decide +kernel
theorem dX7_joined_51 : decode cX7_joined 51 = .ok (.lor, 1) := by decide +kernel
theorem dX7_joined_52 : decode cX7_joined 52 = .ok (.lstore_n 2, 1) := by decide +kernel
theorem dX7_joined_53 : decode cX7_joined 53 = .ok (.iinc 4 1, 3) := by decide +kernel
theorem dX7_joined_56 : decode cX7_joined 56 = .ok (.goto (-31), 3) := by decide +kernel
theorem dX7_joined_59 : decode cX7_joined 59 = .ok (.lload_n 2, 1) := by decide +kernel
theorem dX7_joined_60 : decode cX7_joined 60 = .ok (.lreturn, 1) := by decide +kernel
set_option maxRecDepth 20000 in
theorem ggX7_groupsNow_X7_pathSet : GoodIn wsX7_groupsNow wsX7_pathSet := goodIn_r _ [7, 8, 9, 10, 6, 11, 12, 21, 22, 23, 24, 25, 26, 27, 28, 29, 30, 31, 32, 33, 34, 35, 36, 37, 38, 39, 40, 41, 42, 43, 44, 45, 46, 47] (by decide +kernel) (by decide +kernel)
set_option maxRecDepth 20000 in
theorem gX7_groupsNow_X7_pathSet : GoodIn wsX7_groupsNow (wsV RX7 231 RX7 yX7_pathSet wsX7_pathSet) := goodIn_app (goodIn_of _ (by decide +kernel)) ggX7_groupsNow_X7_pathSet
set_option maxRecDepth 20000 in
theorem ggX7_groupsNow_X7_walk : GoodIn wsX7_groupsNow wsX7_walk := goodIn_r _ [16, 1, 17, 8, 9, 10, 6, 11, 12, 18, 19, 20, 21, 22, 23, 24, 25, 26, 27, 28, 29, 30, 31, 32, 33, 34, 35, 36, 37, 38, 39, 40, 41, 42, 43, 44, 45, 46, 47] (by decide +kernel) (by decide +kernel)
set_option maxRecDepth 20000 in
theorem gX7_groupsNow_X7_walk : GoodIn wsX7_groupsNow (wsV RX7 222 RX7 yX7_walk wsX7_walk) := goodIn_app (goodIn_of _ (by decide +kernel)) ggX7_groupsNow_X7_walk
theorem dX7_groupsNow_0 : decode cX7_groupsNow 0 = .ok (.aload_n 0, 1) := by decide +kernel
theorem dX7_groupsNow_1 : decode cX7_groupsNow 1 = .ok (.invokevirtual 231, 3) := by decide +kernel
theorem dX7_groupsNow_4 : decode cX7_groupsNow 4 = .ok (.lstore_n 1, 1) := by decide +kernel
theorem dX7_groupsNow_5 : decode cX7_groupsNow 5 = .ok (.iconst 0, 1) := by decide +kernel
theorem dX7_groupsNow_6 : decode cX7_groupsNow 6 = .ok (.istore_n 3, 1) := by decide +kernel
theorem dX7_groupsNow_7 : decode cX7_groupsNow 7 = .ok (.iconst 0, 1) := by decide +kernel
theorem dX7_groupsNow_8 : decode cX7_groupsNow 8 = .ok (.istore 4, 2) := by decide +kernel
theorem dX7_groupsNow_10 : decode cX7_groupsNow 10 = .ok (.iload 4, 2) := by decide +kernel
theorem dX7_groupsNow_12 : decode cX7_groupsNow 12 = .ok (.bipush 36, 2) := by decide +kernel
theorem dX7_groupsNow_14 : decode cX7_groupsNow 14 = .ok (.if_icmp .ge 72, 3) := by decide +kernel
theorem dX7_groupsNow_17 : decode cX7_groupsNow 17 = .ok (.lload_n 1, 1) := by decide +kernel
theorem dX7_groupsNow_18 : decode cX7_groupsNow 18 = .ok (.iload 4, 2) := by decide +kernel
theorem dX7_groupsNow_20 : decode cX7_groupsNow 20 = .ok (.lshr, 1) := by decide +kernel
theorem dX7_groupsNow_21 : decode cX7_groupsNow 21 = .ok (.lconst 1, 1) := by decide +kernel
theorem dX7_groupsNow_22 : decode cX7_groupsNow 22 = .ok (.land, 1) := by decide +kernel
theorem dX7_groupsNow_23 : decode cX7_groupsNow 23 = .ok (.lconst 1, 1) := by decide +kernel
theorem dX7_groupsNow_24 : decode cX7_groupsNow 24 = .ok (.lcmp, 1) := by decide +kernel
theorem dX7_groupsNow_25 : decode cX7_groupsNow 25 = .ok (.ifCond .ne 55, 3) := by decide +kernel
theorem dX7_groupsNow_28 : decode cX7_groupsNow 28 = .ok (.iinc 3 1, 3) := by decide +kernel
theorem dX7_groupsNow_31 : decode cX7_groupsNow 31 = .ok (.aload_n 0, 1) := by decide +kernel
theorem dX7_groupsNow_32 : decode cX7_groupsNow 32 = .ok (.iload 4, 2) := by decide +kernel
theorem dX7_groupsNow_34 : decode cX7_groupsNow 34 = .ok (.invokevirtual 222, 3) := by decide +kernel
theorem dX7_groupsNow_37 : decode cX7_groupsNow 37 = .ok (.iconst 0, 1) := by decide +kernel
theorem dX7_groupsNow_38 : decode cX7_groupsNow 38 = .ok (.istore 5, 2) := by decide +kernel
theorem dX7_groupsNow_40 : decode cX7_groupsNow 40 = .ok (.iload 5, 2) := by decide +kernel
theorem dX7_groupsNow_42 : decode cX7_groupsNow 42 = .ok (.bipush 36, 2) := by decide +kernel
theorem dX7_groupsNow_44 : decode cX7_groupsNow 44 = .ok (.if_icmp .ge 36, 3) := by decide +kernel
theorem dX7_groupsNow_47 : decode cX7_groupsNow 47 = .ok (.lload_n 1, 1) := by decide +kernel
theorem dX7_groupsNow_48 : decode cX7_groupsNow 48 = .ok (.aload_n 0, 1) := by decide +kernel
theorem dX7_groupsNow_49 : decode cX7_groupsNow 49 = .ok (.getfield 22, 3) := by decide +kernel
theorem dX7_groupsNow_52 : decode cX7_groupsNow 52 = .ok (.iload 5, 2) := by decide +kernel
theorem dX7_groupsNow_54 : decode cX7_groupsNow 54 = .ok (.iaload, 1) := by decide +kernel
theorem dX7_groupsNow_55 : decode cX7_groupsNow 55 = .ok (.ifCond .lt 14, 3) := by decide +kernel
theorem dX7_groupsNow_58 : decode cX7_groupsNow 58 = .ok (.lconst 1, 1) := by decide +kernel
theorem dX7_groupsNow_59 : decode cX7_groupsNow 59 = .ok (.iload 5, 2) := by decide +kernel
theorem dX7_groupsNow_61 : decode cX7_groupsNow 61 = .ok (.lshl, 1) := by decide +kernel
theorem dX7_groupsNow_62 : decode cX7_groupsNow 62 = .ok (.ldc2_w 235, 3) := by decide +kernel
theorem dX7_groupsNow_65 : decode cX7_groupsNow 65 = .ok (.lxor, 1) := by decide +kernel
theorem dX7_groupsNow_66 : decode cX7_groupsNow 66 = .ok (.goto 6, 3) := by decide +kernel
theorem dX7_groupsNow_69 : decode cX7_groupsNow 69 = .ok (.ldc2_w 235, 3) := by decide +kernel
theorem dX7_groupsNow_72 : decode cX7_groupsNow 72 = .ok (.land, 1) := by decide +kernel
theorem dX7_groupsNow_73 : decode cX7_groupsNow 73 = .ok (.lstore_n 1, 1) := by decide +kernel
theorem dX7_groupsNow_74 : decode cX7_groupsNow 74 = .ok (.iinc 5 1, 3) := by decide +kernel
theorem dX7_groupsNow_77 : decode cX7_groupsNow 77 = .ok (.goto (-37), 3) := by decide +kernel
theorem dX7_groupsNow_80 : decode cX7_groupsNow 80 = .ok (.iinc 4 1, 3) := by decide +kernel
theorem dX7_groupsNow_83 : decode cX7_groupsNow 83 = .ok (.goto (-73), 3) := by decide +kernel
theorem dX7_groupsNow_86 : decode cX7_groupsNow 86 = .ok (.iload_n 3, 1) := by decide +kernel
theorem dX7_groupsNow_87 : decode cX7_groupsNow 87 = .ok (.ireturn, 1) := by decide +kernel
set_option maxRecDepth 20000 in
theorem ggX7_groups_X7_groupsNow : GoodIn wsX7_groups wsX7_groupsNow := goodIn_r _ [5, 6, 7, 8, 9, 10, 4, 11, 12, 13, 14, 15, 16, 17, 18, 19, 20, 21, 22, 23, 24, 25, 26, 27, 28, 29, 30, 31, 32, 33, 34, 35, 36, 37, 38, 39, 40, 41, 42, 43, 44, 45, 46, 47, 48, 49, 50, 51] (by decide +kernel) (by decide +kernel)
set_option maxRecDepth 20000 in
theorem gX7_groups_X7_groupsNow : GoodIn wsX7_groups (wsV RX7 237 RX7 yX7_groupsNow wsX7_groupsNow) := goodIn_app (goodIn_of _ (by decide +kernel)) ggX7_groups_X7_groupsNow
theorem dX7_groups_0 : decode cX7_groups 0 = .ok (.aload_n 0, 1) := by decide +kernel
theorem dX7_groups_1 : decode cX7_groups 1 = .ok (.invokevirtual 237, 3) := by decide +kernel
theorem dX7_groups_4 : decode cX7_groups 4 = .ok (.ireturn, 1) := by decide +kernel
set_option maxRecDepth 20000 in
theorem ggX7_bridgesOf_X7_areJoined : GoodIn wsX7_bridgesOf wsX7_areJoined := goodIn_r _ [6, 7, 8, 9, 10, 5, 11, 12, 13, 14, 15, 16, 1, 17, 18, 19, 20, 21, 22, 23, 24, 25, 26, 27, 28, 29, 30, 31, 32, 33, 34, 35, 36, 37, 38, 39, 40, 41, 42, 43, 44, 45, 46] (by decide +kernel) (by decide +kernel)
set_option maxRecDepth 20000 in
theorem gX7_bridgesOf_X7_areJoined : GoodIn wsX7_bridgesOf (wsV RX7 240 RX7 yX7_areJoined wsX7_areJoined) := goodIn_app (goodIn_of _ (by decide +kernel)) ggX7_bridgesOf_X7_areJoined
theorem dX7_bridgesOf_0 : decode cX7_bridgesOf 0 = .ok (.lconst 0, 1) := by decide +kernel
theorem dX7_bridgesOf_1 : decode cX7_bridgesOf 1 = .ok (.lstore_n 3, 1) := by decide +kernel
theorem dX7_bridgesOf_2 : decode cX7_bridgesOf 2 = .ok (.aload_n 0, 1) := by decide +kernel
theorem dX7_bridgesOf_3 : decode cX7_bridgesOf 3 = .ok (.iload_n 1, 1) := by decide +kernel
theorem dX7_bridgesOf_4 : decode cX7_bridgesOf 4 = .ok (.iload_n 2, 1) := by decide +kernel
theorem dX7_bridgesOf_5 : decode cX7_bridgesOf 5 = .ok (.invokevirtual 240, 3) := by decide +kernel
theorem dX7_bridgesOf_8 : decode cX7_bridgesOf 8 = .ok (.ifCond .eq 91, 3) := by decide +kernel
theorem dX7_bridgesOf_11 : decode cX7_bridgesOf 11 = .ok (.iconst 0, 1) := by decide +kernel
theorem dX7_bridgesOf_12 : decode cX7_bridgesOf 12 = .ok (.istore 5, 2) := by decide +kernel
theorem dX7_bridgesOf_14 : decode cX7_bridgesOf 14 = .ok (.iload 5, 2) := by decide +kernel
theorem dX7_bridgesOf_16 : decode cX7_bridgesOf 16 = .ok (.bipush 36, 2) := by decide +kernel
theorem dX7_bridgesOf_18 : decode cX7_bridgesOf 18 = .ok (.if_icmp .ge 81, 3) := by decide +kernel
theorem dX7_bridgesOf_21 : decode cX7_bridgesOf 21 = .ok (.aload_n 0, 1) := by decide +kernel
theorem dX7_bridgesOf_22 : decode cX7_bridgesOf 22 = .ok (.getfield 9, 3) := by decide +kernel
theorem dX7_bridgesOf_25 : decode cX7_bridgesOf 25 = .ok (.bipush 49, 2) := by decide +kernel
theorem dX7_bridgesOf_27 : decode cX7_bridgesOf 27 = .ok (.iload 5, 2) := by decide +kernel
theorem dX7_bridgesOf_29 : decode cX7_bridgesOf 29 = .ok (.iadd, 1) := by decide +kernel
theorem dX7_bridgesOf_30 : decode cX7_bridgesOf 30 = .ok (.iaload, 1) := by decide +kernel
theorem dX7_bridgesOf_31 : decode cX7_bridgesOf 31 = .ok (.istore 6, 2) := by decide +kernel
theorem dX7_bridgesOf_33 : decode cX7_bridgesOf 33 = .ok (.aload_n 0, 1) := by decide +kernel
theorem dX7_bridgesOf_34 : decode cX7_bridgesOf 34 = .ok (.getfield 9, 3) := by decide +kernel
theorem dX7_bridgesOf_37 : decode cX7_bridgesOf 37 = .ok (.bipush 49, 2) := by decide +kernel
theorem dX7_bridgesOf_39 : decode cX7_bridgesOf 39 = .ok (.iload 5, 2) := by decide +kernel
theorem dX7_bridgesOf_41 : decode cX7_bridgesOf 41 = .ok (.iadd, 1) := by decide +kernel
theorem dX7_bridgesOf_42 : decode cX7_bridgesOf 42 = .ok (.iload 5, 2) := by decide +kernel
theorem dX7_bridgesOf_44 : decode cX7_bridgesOf 44 = .ok (.iload_n 1, 1) := by decide +kernel
theorem dX7_bridgesOf_45 : decode cX7_bridgesOf 45 = .ok (.if_icmp .eq 9, 3) := by decide +kernel
theorem dX7_bridgesOf_48 : decode cX7_bridgesOf 48 = .ok (.iload 5, 2) := by decide +kernel
theorem dX7_bridgesOf_50 : decode cX7_bridgesOf 50 = .ok (.iload_n 2, 1) := by decide +kernel
theorem dX7_bridgesOf_51 : decode cX7_bridgesOf 51 = .ok (.if_icmp .ne 8, 3) := by decide +kernel
theorem dX7_bridgesOf_54 : decode cX7_bridgesOf 54 = .ok (.iload 6, 2) := by decide +kernel
theorem dX7_bridgesOf_56 : decode cX7_bridgesOf 56 = .ok (.goto 4, 3) := by decide +kernel
theorem dX7_bridgesOf_59 : decode cX7_bridgesOf 59 = .ok (.iconst 0, 1) := by decide +kernel
theorem dX7_bridgesOf_60 : decode cX7_bridgesOf 60 = .ok (.iastore, 1) := by decide +kernel
theorem dX7_bridgesOf_61 : decode cX7_bridgesOf 61 = .ok (.lload_n 3, 1) := by decide +kernel
theorem dX7_bridgesOf_62 : decode cX7_bridgesOf 62 = .ok (.aload_n 0, 1) := by decide +kernel
theorem dX7_bridgesOf_63 : decode cX7_bridgesOf 63 = .ok (.iload_n 1, 1) := by decide +kernel
theorem dX7_bridgesOf_64 : decode cX7_bridgesOf 64 = .ok (.iload_n 2, 1) := by decide +kernel
theorem dX7_bridgesOf_65 : decode cX7_bridgesOf 65 = .ok (.invokevirtual 240, 3) := by decide +kernel
theorem dX7_bridgesOf_68 : decode cX7_bridgesOf 68 = .ok (.ifCond .eq 7, 3) := by decide +kernel
theorem dX7_bridgesOf_71 : decode cX7_bridgesOf 71 = .ok (.lconst 0, 1) := by decide +kernel
theorem dX7_bridgesOf_72 : decode cX7_bridgesOf 72 = .ok (.goto 7, 3) := by decide +kernel
theorem dX7_bridgesOf_75 : decode cX7_bridgesOf 75 = .ok (.lconst 1, 1) := by decide +kernel
theorem dX7_bridgesOf_76 : decode cX7_bridgesOf 76 = .ok (.iload 5, 2) := by decide +kernel
theorem dX7_bridgesOf_78 : decode cX7_bridgesOf 78 = .ok (.lshl, 1) := by decide +kernel
theorem dX7_bridgesOf_79 : decode cX7_bridgesOf 79 = .ok (.lor, 1) := by decide +kernel
theorem dX7_bridgesOf_80 : decode cX7_bridgesOf 80 = .ok (.lstore_n 3, 1) := by decide +kernel
theorem dX7_bridgesOf_81 : decode cX7_bridgesOf 81 = .ok (.aload_n 0, 1) := by decide +kernel
theorem dX7_bridgesOf_82 : decode cX7_bridgesOf 82 = .ok (.getfield 9, 3) := by decide +kernel
theorem dX7_bridgesOf_85 : decode cX7_bridgesOf 85 = .ok (.bipush 49, 2) := by decide +kernel
theorem dX7_bridgesOf_87 : decode cX7_bridgesOf 87 = .ok (.iload 5, 2) := by decide +kernel
theorem dX7_bridgesOf_89 : decode cX7_bridgesOf 89 = .ok (.iadd, 1) := by decide +kernel
theorem dX7_bridgesOf_90 : decode cX7_bridgesOf 90 = .ok (.iload 6, 2) := by decide +kernel
theorem dX7_bridgesOf_92 : decode cX7_bridgesOf 92 = .ok (.iastore, 1) := by decide +kernel
theorem dX7_bridgesOf_93 : decode cX7_bridgesOf 93 = .ok (.iinc 5 1, 3) := by decide +kernel
theorem dX7_bridgesOf_96 : decode cX7_bridgesOf 96 = .ok (.goto (-82), 3) := by decide +kernel
theorem dX7_bridgesOf_99 : decode cX7_bridgesOf 99 = .ok (.lload_n 3, 1) := by decide +kernel
theorem dX7_bridgesOf_100 : decode cX7_bridgesOf 100 = .ok (.lreturn, 1) := by decide +kernel
set_option maxRecDepth 20000 in
theorem ggX7_parts_X7_areCells : GoodIn wsX7_parts wsX7_areCells := goodIn_r _ [6, 7, 8, 5, 9, 10, 11, 12] (by decide +kernel) (by decide +kernel)
set_option maxRecDepth 20000 in
theorem gX7_parts_X7_areCells : GoodIn wsX7_parts (va_wsS RX7 225 yX7_areCells wsX7_areCells) := goodIn_app (goodIn_of _ (by decide +kernel)) ggX7_parts_X7_areCells
set_option maxRecDepth 20000 in
theorem ggX7_parts_X7_finding : GoodIn wsX7_parts wsX7_finding := goodIn_r _ [16, 17, 1, 40, 41, 42, 43, 44, 45, 46, 47, 48, 49, 50, 51, 52, 53, 54, 55, 56, 57, 58, 59, 60, 61, 62, 63, 64, 65, 66] (by decide +kernel) (by decide +kernel)
set_option maxRecDepth 20000 in
theorem gX7_parts_X7_finding : GoodIn wsX7_parts (wsV RX7 101 RX7 yX7_finding wsX7_finding) := goodIn_app (goodIn_of _ (by decide +kernel)) ggX7_parts_X7_finding
set_option maxRecDepth 20000 in
theorem ggX7_parts_X7_bridgesOf : GoodIn wsX7_parts wsX7_bridgesOf := goodIn_r _ [21, 22, 23, 24, 25, 5, 26, 27, 28, 29, 30, 31, 32, 33, 34, 35, 36, 37, 38, 39, 40, 41, 42, 43, 44, 45, 46, 47, 48, 49, 50, 51, 52, 53, 54, 55, 56, 57, 58, 59, 60, 61, 62, 63, 64, 65, 66] (by decide +kernel) (by decide +kernel)
set_option maxRecDepth 20000 in
theorem gX7_parts_X7_bridgesOf : GoodIn wsX7_parts (wsV RX7 243 RX7 yX7_bridgesOf wsX7_bridgesOf) := goodIn_app (goodIn_of _ (by decide +kernel)) ggX7_parts_X7_bridgesOf
theorem dX7_parts_0 : decode cX7_parts 0 = .ok (.iload_n 1, 1) := by decide +kernel
theorem dX7_parts_1 : decode cX7_parts 1 = .ok (.iload_n 2, 1) := by decide +kernel
theorem dX7_parts_2 : decode cX7_parts 2 = .ok (.invokestatic 225, 3) := by decide +kernel
theorem dX7_parts_5 : decode cX7_parts 5 = .ok (.ifCond .ne 10, 3) := by decide +kernel
theorem dX7_parts_8 : decode cX7_parts 8 = .ok (.aload_n 0, 1) := by decide +kernel
theorem dX7_parts_9 : decode cX7_parts 9 = .ok (.ldc 95, 2) := by decide +kernel
theorem dX7_parts_11 : decode cX7_parts 11 = .ok (.invokevirtual 101, 3) := by decide +kernel
theorem dX7_parts_14 : decode cX7_parts 14 = .ok (.ireturn, 1) := by decide +kernel
theorem dX7_parts_15 : decode cX7_parts 15 = .ok (.aload_n 0, 1) := by decide +kernel
theorem dX7_parts_16 : decode cX7_parts 16 = .ok (.iload_n 1, 1) := by decide +kernel
theorem dX7_parts_17 : decode cX7_parts 17 = .ok (.iload_n 2, 1) := by decide +kernel
theorem dX7_parts_18 : decode cX7_parts 18 = .ok (.invokevirtual 243, 3) := by decide +kernel
theorem dX7_parts_21 : decode cX7_parts 21 = .ok (.lstore_n 3, 1) := by decide +kernel
theorem dX7_parts_22 : decode cX7_parts 22 = .ok (.iconst 0, 1) := by decide +kernel
theorem dX7_parts_23 : decode cX7_parts 23 = .ok (.istore 5, 2) := by decide +kernel
theorem dX7_parts_25 : decode cX7_parts 25 = .ok (.iload 5, 2) := by decide +kernel
theorem dX7_parts_27 : decode cX7_parts 27 = .ok (.bipush 36, 2) := by decide +kernel
theorem dX7_parts_29 : decode cX7_parts 29 = .ok (.if_icmp .ge 20, 3) := by decide +kernel
theorem dX7_parts_32 : decode cX7_parts 32 = .ok (.lload_n 3, 1) := by decide +kernel
theorem dX7_parts_33 : decode cX7_parts 33 = .ok (.iload 5, 2) := by decide +kernel
theorem dX7_parts_35 : decode cX7_parts 35 = .ok (.lshr, 1) := by decide +kernel
theorem dX7_parts_36 : decode cX7_parts 36 = .ok (.lconst 1, 1) := by decide +kernel
theorem dX7_parts_37 : decode cX7_parts 37 = .ok (.land, 1) := by decide +kernel
theorem dX7_parts_38 : decode cX7_parts 38 = .ok (.lconst 0, 1) := by decide +kernel
theorem dX7_parts_39 : decode cX7_parts 39 = .ok (.lcmp, 1) := by decide +kernel
theorem dX7_parts_40 : decode cX7_parts 40 = .ok (.ifCond .ne 9, 3) := by decide +kernel
theorem dX7_parts_43 : decode cX7_parts 43 = .ok (.iinc 5 1, 3) := by decide +kernel
theorem dX7_parts_46 : decode cX7_parts 46 = .ok (.goto (-21), 3) := by decide +kernel
theorem dX7_parts_49 : decode cX7_parts 49 = .ok (.iload 5, 2) := by decide +kernel
theorem dX7_parts_51 : decode cX7_parts 51 = .ok (.bipush 36, 2) := by decide +kernel
theorem dX7_parts_53 : decode cX7_parts 53 = .ok (.if_icmp .ge 8, 3) := by decide +kernel
theorem dX7_parts_56 : decode cX7_parts 56 = .ok (.iload 5, 2) := by decide +kernel
theorem dX7_parts_58 : decode cX7_parts 58 = .ok (.goto 9, 3) := by decide +kernel
theorem dX7_parts_61 : decode cX7_parts 61 = .ok (.aload_n 0, 1) := by decide +kernel
theorem dX7_parts_62 : decode cX7_parts 62 = .ok (.ldc 100, 2) := by decide +kernel
theorem dX7_parts_64 : decode cX7_parts 64 = .ok (.invokevirtual 101, 3) := by decide +kernel
theorem dX7_parts_67 : decode cX7_parts 67 = .ok (.ireturn, 1) := by decide +kernel
set_option maxRecDepth 20000 in
theorem ggX7_bridges_X7_areCells : GoodIn wsX7_bridges wsX7_areCells := goodIn_r _ [5, 6, 7, 4, 8, 9, 10, 11] (by decide +kernel) (by decide +kernel)
set_option maxRecDepth 20000 in
theorem gX7_bridges_X7_areCells : GoodIn wsX7_bridges (va_wsS RX7 225 yX7_areCells wsX7_areCells) := goodIn_app (goodIn_of _ (by decide +kernel)) ggX7_bridges_X7_areCells
set_option maxRecDepth 20000 in
theorem ggX7_bridges_X7_finding : GoodIn wsX7_bridges wsX7_finding := goodIn_r _ [15, 16, 1, 39, 40, 41, 42, 43, 44, 45, 46, 47, 48, 49, 50, 51, 52, 53, 54, 55, 56, 57, 58, 59, 60, 61, 62, 63, 64, 65] (by decide +kernel) (by decide +kernel)
set_option maxRecDepth 20000 in
theorem gX7_bridges_X7_finding : GoodIn wsX7_bridges (wsV RX7 101 RX7 yX7_finding wsX7_finding) := goodIn_app (goodIn_of _ (by decide +kernel)) ggX7_bridges_X7_finding
set_option maxRecDepth 20000 in
theorem ggX7_bridges_X7_bridgesOf : GoodIn wsX7_bridges wsX7_bridgesOf := goodIn_r _ [20, 21, 22, 23, 24, 4, 25, 26, 27, 28, 29, 30, 31, 32, 33, 34, 35, 36, 37, 38, 39, 40, 41, 42, 43, 44, 45, 46, 47, 48, 49, 50, 51, 52, 53, 54, 55, 56, 57, 58, 59, 60, 61, 62, 63, 64, 65] (by decide +kernel) (by decide +kernel)
set_option maxRecDepth 20000 in
theorem gX7_bridges_X7_bridgesOf : GoodIn wsX7_bridges (wsV RX7 243 RX7 yX7_bridgesOf wsX7_bridgesOf) := goodIn_app (goodIn_of _ (by decide +kernel)) ggX7_bridges_X7_bridgesOf
theorem dX7_bridges_0 : decode cX7_bridges 0 = .ok (.iload_n 1, 1) := by decide +kernel
theorem dX7_bridges_1 : decode cX7_bridges 1 = .ok (.iload_n 2, 1) := by decide +kernel
theorem dX7_bridges_2 : decode cX7_bridges 2 = .ok (.invokestatic 225, 3) := by decide +kernel
theorem dX7_bridges_5 : decode cX7_bridges 5 = .ok (.ifCond .ne 10, 3) := by decide +kernel
theorem dX7_bridges_8 : decode cX7_bridges 8 = .ok (.aload_n 0, 1) := by decide +kernel
theorem dX7_bridges_9 : decode cX7_bridges 9 = .ok (.ldc 95, 2) := by decide +kernel
theorem dX7_bridges_11 : decode cX7_bridges 11 = .ok (.invokevirtual 101, 3) := by decide +kernel
theorem dX7_bridges_14 : decode cX7_bridges 14 = .ok (.ireturn, 1) := by decide +kernel
theorem dX7_bridges_15 : decode cX7_bridges 15 = .ok (.iconst 0, 1) := by decide +kernel
theorem dX7_bridges_16 : decode cX7_bridges 16 = .ok (.istore_n 3, 1) := by decide +kernel
theorem dX7_bridges_17 : decode cX7_bridges 17 = .ok (.aload_n 0, 1) := by decide +kernel
theorem dX7_bridges_18 : decode cX7_bridges 18 = .ok (.iload_n 1, 1) := by decide +kernel
theorem dX7_bridges_19 : decode cX7_bridges 19 = .ok (.iload_n 2, 1) := by decide +kernel
theorem dX7_bridges_20 : decode cX7_bridges 20 = .ok (.invokevirtual 243, 3) := by decide +kernel
theorem dX7_bridges_23 : decode cX7_bridges 23 = .ok (.lstore 4, 2) := by decide +kernel
theorem dX7_bridges_25 : decode cX7_bridges 25 = .ok (.lload 4, 2) := by decide +kernel
theorem dX7_bridges_27 : decode cX7_bridges 27 = .ok (.lconst 0, 1) := by decide +kernel
theorem dX7_bridges_28 : decode cX7_bridges 28 = .ok (.lcmp, 1) := by decide +kernel
theorem dX7_bridges_29 : decode cX7_bridges 29 = .ok (.ifCond .eq 18, 3) := by decide +kernel
theorem dX7_bridges_32 : decode cX7_bridges 32 = .ok (.iinc 3 1, 3) := by decide +kernel
theorem dX7_bridges_35 : decode cX7_bridges 35 = .ok (.lload 4, 2) := by decide +kernel
theorem dX7_bridges_37 : decode cX7_bridges 37 = .ok (.lload 4, 2) := by decide +kernel
theorem dX7_bridges_39 : decode cX7_bridges 39 = .ok (.lconst 1, 1) := by decide +kernel
theorem dX7_bridges_40 : decode cX7_bridges 40 = .ok (.lsub, 1) := by decide +kernel
theorem dX7_bridges_41 : decode cX7_bridges 41 = .ok (.land, 1) := by decide +kernel
theorem dX7_bridges_42 : decode cX7_bridges 42 = .ok (.lstore 4, 2) := by decide +kernel
theorem dX7_bridges_44 : decode cX7_bridges 44 = .ok (.goto (-19), 3) := by decide +kernel
theorem dX7_bridges_47 : decode cX7_bridges 47 = .ok (.iload_n 3, 1) := by decide +kernel
theorem dX7_bridges_48 : decode cX7_bridges 48 = .ok (.ireturn, 1) := by decide +kernel
set_option maxRecDepth 20000 in
theorem ggX7_fewestMore_X7_isGrass : GoodIn wsX7_fewestMore wsX7_isGrass := goodIn_r _ [6, 7, 19, 20, 21, 22, 23, 24, 25, 26, 27, 28, 29, 30, 31, 32, 33, 34, 35, 36, 37, 38, 39, 40, 41, 42, 43, 44, 45] (by decide +kernel) (by decide +kernel)
set_option maxRecDepth 20000 in
theorem gX7_fewestMore_X7_isGrass : GoodIn wsX7_fewestMore (wsV RX7 141 RX7 yX7_isGrass wsX7_isGrass) := goodIn_app (goodIn_of _ (by decide +kernel)) ggX7_fewestMore_X7_isGrass
set_option maxRecDepth 20000 in
theorem ggX7_fewestMore_X7_hasPath : GoodIn wsX7_fewestMore wsX7_hasPath := goodIn_r _ [11, 7, 19, 20, 21, 22, 23, 24, 25, 26, 27, 28, 29, 30, 31, 32, 33, 34, 35, 36, 37, 38, 39, 40, 41, 42, 43, 44, 45] (by decide +kernel) (by decide +kernel)
set_option maxRecDepth 20000 in
theorem gX7_fewestMore_X7_hasPath : GoodIn wsX7_fewestMore (wsV RX7 126 RX7 yX7_hasPath wsX7_hasPath) := goodIn_app (goodIn_of _ (by decide +kernel)) ggX7_fewestMore_X7_hasPath
set_option maxRecDepth 20000 in
theorem ggX7_fewestMore_X7_lessens : GoodIn wsX7_fewestMore wsX7_lessens := goodIn_r _ [15, 1, 16, 17, 5, 18, 8, 9, 10, 11, 7, 2, 3, 4, 6, 19, 20, 21, 22, 23, 24, 25, 26, 27, 28, 29, 30, 31, 32, 33, 34, 35, 36, 37, 38, 39, 40, 41, 42, 43, 44, 45] (by decide +kernel) (by decide +kernel)
set_option maxRecDepth 20000 in
theorem gX7_fewestMore_X7_lessens : GoodIn wsX7_fewestMore (wsV RX7 247 RX7 yX7_lessens wsX7_lessens) := goodIn_app (goodIn_of _ (by decide +kernel)) ggX7_fewestMore_X7_lessens
theorem dX7_fewestMore_0 : decode cX7_fewestMore 0 = .ok (.iconst 0, 1) := by decide +kernel
theorem dX7_fewestMore_1 : decode cX7_fewestMore 1 = .ok (.istore_n 2, 1) := by decide +kernel
theorem dX7_fewestMore_2 : decode cX7_fewestMore 2 = .ok (.iload_n 2, 1) := by decide +kernel
theorem dX7_fewestMore_3 : decode cX7_fewestMore 3 = .ok (.bipush 36, 2) := by decide +kernel
theorem dX7_fewestMore_5 : decode cX7_fewestMore 5 = .ok (.if_icmp .ge 17, 3) := by decide +kernel
theorem dX7_fewestMore_8 : decode cX7_fewestMore 8 = .ok (.aload_n 0, 1) := by decide +kernel
theorem dX7_fewestMore_9 : decode cX7_fewestMore 9 = .ok (.getfield 22, 3) := by decide +kernel
theorem dX7_fewestMore_12 : decode cX7_fewestMore 12 = .ok (.iload_n 2, 1) := by decide +kernel
theorem dX7_fewestMore_13 : decode cX7_fewestMore 13 = .ok (.bipush 37, 2) := by decide +kernel
theorem dX7_fewestMore_15 : decode cX7_fewestMore 15 = .ok (.iastore, 1) := by decide +kernel
theorem dX7_fewestMore_16 : decode cX7_fewestMore 16 = .ok (.iinc 2 1, 3) := by decide +kernel
theorem dX7_fewestMore_19 : decode cX7_fewestMore 19 = .ok (.goto (-17), 3) := by decide +kernel
theorem dX7_fewestMore_22 : decode cX7_fewestMore 22 = .ok (.aload_n 0, 1) := by decide +kernel
theorem dX7_fewestMore_23 : decode cX7_fewestMore 23 = .ok (.getfield 22, 3) := by decide +kernel
theorem dX7_fewestMore_26 : decode cX7_fewestMore 26 = .ok (.iload_n 1, 1) := by decide +kernel
theorem dX7_fewestMore_27 : decode cX7_fewestMore 27 = .ok (.aload_n 0, 1) := by decide +kernel
theorem dX7_fewestMore_28 : decode cX7_fewestMore 28 = .ok (.iload_n 1, 1) := by decide +kernel
theorem dX7_fewestMore_29 : decode cX7_fewestMore 29 = .ok (.invokevirtual 141, 3) := by decide +kernel
theorem dX7_fewestMore_32 : decode cX7_fewestMore 32 = .ok (.ifCond .ne 8, 3) := by decide +kernel
theorem dX7_fewestMore_35 : decode cX7_fewestMore 35 = .ok (.bipush 37, 2) := by decide +kernel
theorem dX7_fewestMore_37 : decode cX7_fewestMore 37 = .ok (.goto 16, 3) := by decide +kernel
theorem dX7_fewestMore_40 : decode cX7_fewestMore 40 = .ok (.aload_n 0, 1) := by decide +kernel
theorem dX7_fewestMore_41 : decode cX7_fewestMore 41 = .ok (.iload_n 1, 1) := by decide +kernel
theorem dX7_fewestMore_42 : decode cX7_fewestMore 42 = .ok (.invokevirtual 126, 3) := by decide +kernel
theorem dX7_fewestMore_45 : decode cX7_fewestMore 45 = .ok (.ifCond .eq 7, 3) := by decide +kernel
theorem dX7_fewestMore_48 : decode cX7_fewestMore 48 = .ok (.iconst 0, 1) := by decide +kernel
theorem dX7_fewestMore_49 : decode cX7_fewestMore 49 = .ok (.goto 4, 3) := by decide +kernel
theorem dX7_fewestMore_52 : decode cX7_fewestMore 52 = .ok (.iconst 1, 1) := by decide +kernel
theorem dX7_fewestMore_53 : decode cX7_fewestMore 53 = .ok (.iastore, 1) := by decide +kernel
theorem dX7_fewestMore_54 : decode cX7_fewestMore 54 = .ok (.iconst 1, 1) := by decide +kernel
theorem dX7_fewestMore_55 : decode cX7_fewestMore 55 = .ok (.istore_n 2, 1) := by decide +kernel
theorem dX7_fewestMore_56 : decode cX7_fewestMore 56 = .ok (.iload_n 2, 1) := by decide +kernel
theorem dX7_fewestMore_57 : decode cX7_fewestMore 57 = .ok (.ifCond .eq 30, 3) := by decide +kernel
theorem dX7_fewestMore_60 : decode cX7_fewestMore 60 = .ok (.iconst 0, 1) := by decide +kernel
theorem dX7_fewestMore_61 : decode cX7_fewestMore 61 = .ok (.istore_n 2, 1) := by decide +kernel
theorem dX7_fewestMore_62 : decode cX7_fewestMore 62 = .ok (.iconst 0, 1) := by decide +kernel
theorem dX7_fewestMore_63 : decode cX7_fewestMore 63 = .ok (.istore_n 3, 1) := by decide +kernel
theorem dX7_fewestMore_64 : decode cX7_fewestMore 64 = .ok (.iload_n 3, 1) := by decide +kernel
theorem dX7_fewestMore_65 : decode cX7_fewestMore 65 = .ok (.bipush 36, 2) := by decide +kernel
theorem dX7_fewestMore_67 : decode cX7_fewestMore 67 = .ok (.if_icmp .ge 17, 3) := by decide +kernel
theorem dX7_fewestMore_70 : decode cX7_fewestMore 70 = .ok (.iload_n 2, 1) := by decide +kernel
theorem dX7_fewestMore_71 : decode cX7_fewestMore 71 = .ok (.aload_n 0, 1) := by decide +kernel
theorem dX7_fewestMore_72 : decode cX7_fewestMore 72 = .ok (.iload_n 3, 1) := by decide +kernel
theorem dX7_fewestMore_73 : decode cX7_fewestMore 73 = .ok (.invokevirtual 247, 3) := by decide +kernel
theorem dX7_fewestMore_76 : decode cX7_fewestMore 76 = .ok (.ior, 1) := by decide +kernel
theorem dX7_fewestMore_77 : decode cX7_fewestMore 77 = .ok (.istore_n 2, 1) := by decide +kernel
theorem dX7_fewestMore_78 : decode cX7_fewestMore 78 = .ok (.iinc 3 1, 3) := by decide +kernel
theorem dX7_fewestMore_81 : decode cX7_fewestMore 81 = .ok (.goto (-17), 3) := by decide +kernel
theorem dX7_fewestMore_84 : decode cX7_fewestMore 84 = .ok (.goto (-28), 3) := by decide +kernel
theorem dX7_fewestMore_87 : decode cX7_fewestMore 87 = .ok (.return_, 1) := by decide +kernel
set_option maxRecDepth 20000 in
theorem ggX7_lessens_X7_beside : GoodIn wsX7_lessens wsX7_beside := goodIn_r _ [5] (by decide +kernel) (by decide +kernel)
set_option maxRecDepth 20000 in
theorem gX7_lessens_X7_beside : GoodIn wsX7_lessens (va_wsS RX7 123 yX7_beside wsX7_beside) := goodIn_app (goodIn_of _ (by decide +kernel)) ggX7_lessens_X7_beside
set_option maxRecDepth 20000 in
theorem ggX7_lessens_X7_hasPath : GoodIn wsX7_lessens wsX7_hasPath := goodIn_r _ [9, 10, 15, 16, 17, 18, 19, 20, 21, 22, 23, 24, 25, 26, 27, 28, 29, 30, 31, 32, 33, 34, 35, 36, 37, 38, 39, 40, 41] (by decide +kernel) (by decide +kernel)
set_option maxRecDepth 20000 in
theorem gX7_lessens_X7_hasPath : GoodIn wsX7_lessens (wsV RX7 126 RX7 yX7_hasPath wsX7_hasPath) := goodIn_app (goodIn_of _ (by decide +kernel)) ggX7_lessens_X7_hasPath
set_option maxRecDepth 20000 in
theorem ggX7_lessens_X7_isGrass : GoodIn wsX7_lessens wsX7_isGrass := goodIn_r _ [14, 10, 15, 16, 17, 18, 19, 20, 21, 22, 23, 24, 25, 26, 27, 28, 29, 30, 31, 32, 33, 34, 35, 36, 37, 38, 39, 40, 41] (by decide +kernel) (by decide +kernel)
set_option maxRecDepth 20000 in
theorem gX7_lessens_X7_isGrass : GoodIn wsX7_lessens (wsV RX7 141 RX7 yX7_isGrass wsX7_isGrass) := goodIn_app (goodIn_of _ (by decide +kernel)) ggX7_lessens_X7_isGrass
theorem dX7_lessens_0 : decode cX7_lessens 0 = .ok (.iconst 0, 1) := by decide +kernel
theorem dX7_lessens_1 : decode cX7_lessens 1 = .ok (.istore_n 2, 1) := by decide +kernel
theorem dX7_lessens_2 : decode cX7_lessens 2 = .ok (.iconst 0, 1) := by decide +kernel
theorem dX7_lessens_3 : decode cX7_lessens 3 = .ok (.istore_n 3, 1) := by decide +kernel
theorem dX7_lessens_4 : decode cX7_lessens 4 = .ok (.iload_n 3, 1) := by decide +kernel
theorem dX7_lessens_5 : decode cX7_lessens 5 = .ok (.iconst 4, 1) := by decide +kernel
theorem dX7_lessens_6 : decode cX7_lessens 6 = .ok (.if_icmp .ge 86, 3) := by decide +kernel
theorem dX7_lessens_9 : decode cX7_lessens 9 = .ok (.iload_n 1, 1) := by decide +kernel
theorem dX7_lessens_10 : decode cX7_lessens 10 = .ok (.iload_n 3, 1) := by decide +kernel
theorem dX7_lessens_11 : decode cX7_lessens 11 = .ok (.invokestatic 123, 3) := by decide +kernel
theorem dX7_lessens_14 : decode cX7_lessens 14 = .ok (.istore 4, 2) := by decide +kernel
theorem dX7_lessens_16 : decode cX7_lessens 16 = .ok (.iload 4, 2) := by decide +kernel
theorem dX7_lessens_18 : decode cX7_lessens 18 = .ok (.ifCond .ge 8, 3) := by decide +kernel
theorem dX7_lessens_21 : decode cX7_lessens 21 = .ok (.bipush 37, 2) := by decide +kernel
theorem dX7_lessens_23 : decode cX7_lessens 23 = .ok (.goto 24, 3) := by decide +kernel
theorem dX7_lessens_26 : decode cX7_lessens 26 = .ok (.aload_n 0, 1) := by decide +kernel
theorem dX7_lessens_27 : decode cX7_lessens 27 = .ok (.getfield 22, 3) := by decide +kernel
theorem dX7_lessens_30 : decode cX7_lessens 30 = .ok (.iload_n 1, 1) := by decide +kernel
theorem dX7_lessens_31 : decode cX7_lessens 31 = .ok (.iaload, 1) := by decide +kernel
theorem dX7_lessens_32 : decode cX7_lessens 32 = .ok (.aload_n 0, 1) := by decide +kernel
theorem dX7_lessens_33 : decode cX7_lessens 33 = .ok (.iload 4, 2) := by decide +kernel
theorem dX7_lessens_35 : decode cX7_lessens 35 = .ok (.invokevirtual 126, 3) := by decide +kernel
theorem dX7_lessens_38 : decode cX7_lessens 38 = .ok (.ifCond .eq 7, 3) := by decide +kernel
theorem dX7_lessens_41 : decode cX7_lessens 41 = .ok (.iconst 0, 1) := by decide +kernel
theorem dX7_lessens_42 : decode cX7_lessens 42 = .ok (.goto 4, 3) := by decide +kernel
theorem dX7_lessens_45 : decode cX7_lessens 45 = .ok (.iconst 1, 1) := by decide +kernel
theorem dX7_lessens_46 : decode cX7_lessens 46 = .ok (.iadd, 1) := by decide +kernel
theorem dX7_lessens_47 : decode cX7_lessens 47 = .ok (.istore 5, 2) := by decide +kernel
theorem dX7_lessens_49 : decode cX7_lessens 49 = .ok (.iload 4, 2) := by decide +kernel
theorem dX7_lessens_51 : decode cX7_lessens 51 = .ok (.ifCond .lt 35, 3) := by decide +kernel
theorem dX7_lessens_54 : decode cX7_lessens 54 = .ok (.aload_n 0, 1) := by decide +kernel
theorem dX7_lessens_55 : decode cX7_lessens 55 = .ok (.iload 4, 2) := by decide +kernel
theorem dX7_lessens_57 : decode cX7_lessens 57 = .ok (.invokevirtual 141, 3) := by decide +kernel
theorem dX7_lessens_60 : decode cX7_lessens 60 = .ok (.ifCond .eq 26, 3) := by decide +kernel
theorem dX7_lessens_63 : decode cX7_lessens 63 = .ok (.iload 5, 2) := by decide +kernel
theorem dX7_lessens_65 : decode cX7_lessens 65 = .ok (.aload_n 0, 1) := by decide +kernel
theorem dX7_lessens_66 : decode cX7_lessens 66 = .ok (.getfield 22, 3) := by decide +kernel
theorem dX7_lessens_69 : decode cX7_lessens 69 = .ok (.iload 4, 2) := by decide +kernel
theorem dX7_lessens_71 : decode cX7_lessens 71 = .ok (.iaload, 1) := by decide +kernel
theorem dX7_lessens_72 : decode cX7_lessens 72 = .ok (.if_icmp .ge 14, 3) := by decide +kernel
theorem dX7_lessens_75 : decode cX7_lessens 75 = .ok (.aload_n 0, 1) := by decide +kernel
theorem dX7_lessens_76 : decode cX7_lessens 76 = .ok (.getfield 22, 3) := by decide +kernel
theorem dX7_lessens_79 : decode cX7_lessens 79 = .ok (.iload 4, 2) := by decide +kernel
theorem dX7_lessens_81 : decode cX7_lessens 81 = .ok (.iload 5, 2) := by decide +kernel
theorem dX7_lessens_83 : decode cX7_lessens 83 = .ok (.iastore, 1) := by decide +kernel
theorem dX7_lessens_84 : decode cX7_lessens 84 = .ok (.iconst 1, 1) := by decide +kernel
theorem dX7_lessens_85 : decode cX7_lessens 85 = .ok (.istore_n 2, 1) := by decide +kernel
theorem dX7_lessens_86 : decode cX7_lessens 86 = .ok (.iinc 3 1, 3) := by decide +kernel
theorem dX7_lessens_89 : decode cX7_lessens 89 = .ok (.goto (-85), 3) := by decide +kernel
theorem dX7_lessens_92 : decode cX7_lessens 92 = .ok (.iload_n 2, 1) := by decide +kernel
theorem dX7_lessens_93 : decode cX7_lessens 93 = .ok (.ireturn, 1) := by decide +kernel
set_option maxRecDepth 20000 in
theorem ggX7_mend_X7_areCells : GoodIn wsX7_mend wsX7_areCells := goodIn_r _ [7, 8, 9, 6, 10, 11, 12, 13] (by decide +kernel) (by decide +kernel)
set_option maxRecDepth 20000 in
theorem gX7_mend_X7_areCells : GoodIn wsX7_mend (va_wsS RX7 225 yX7_areCells wsX7_areCells) := goodIn_app (goodIn_of _ (by decide +kernel)) ggX7_mend_X7_areCells
set_option maxRecDepth 20000 in
theorem ggX7_mend_X7_finding : GoodIn wsX7_mend wsX7_finding := goodIn_r _ [17, 18, 1, 39, 40, 41, 42, 43, 44, 45, 46, 47, 48, 49, 50, 51, 52, 53, 54, 55, 56, 57, 58, 59, 60, 61, 62, 63, 64, 65] (by decide +kernel) (by decide +kernel)
set_option maxRecDepth 20000 in
theorem gX7_mend_X7_finding : GoodIn wsX7_mend (wsV RX7 101 RX7 yX7_finding wsX7_finding) := goodIn_app (goodIn_of _ (by decide +kernel)) ggX7_mend_X7_finding
set_option maxRecDepth 20000 in
theorem ggX7_mend_X7_fewestMore : GoodIn wsX7_mend wsX7_fewestMore := goodIn_r _ [22, 2, 23, 24, 25, 6, 26, 27, 28, 29, 30, 31, 32, 33, 34, 35, 36, 37, 38, 39, 40, 41, 42, 43, 44, 45, 46, 47, 48, 49, 50, 51, 52, 53, 54, 55, 56, 57, 58, 59, 60, 61, 62, 63, 64, 65] (by decide +kernel) (by decide +kernel)
set_option maxRecDepth 20000 in
theorem gX7_mend_X7_fewestMore : GoodIn wsX7_mend (wsV RX7 250 RX7 yX7_fewestMore wsX7_fewestMore) := goodIn_app (goodIn_of _ (by decide +kernel)) ggX7_mend_X7_fewestMore
theorem dX7_mend_0 : decode cX7_mend 0 = .ok (.iload_n 1, 1) := by decide +kernel
theorem dX7_mend_1 : decode cX7_mend 1 = .ok (.iload_n 2, 1) := by decide +kernel
theorem dX7_mend_2 : decode cX7_mend 2 = .ok (.invokestatic 225, 3) := by decide +kernel
theorem dX7_mend_5 : decode cX7_mend 5 = .ok (.ifCond .ne 10, 3) := by decide +kernel
theorem dX7_mend_8 : decode cX7_mend 8 = .ok (.aload_n 0, 1) := by decide +kernel
theorem dX7_mend_9 : decode cX7_mend 9 = .ok (.ldc 95, 2) := by decide +kernel
theorem dX7_mend_11 : decode cX7_mend 11 = .ok (.invokevirtual 101, 3) := by decide +kernel
theorem dX7_mend_14 : decode cX7_mend 14 = .ok (.ireturn, 1) := by decide +kernel
theorem dX7_mend_15 : decode cX7_mend 15 = .ok (.aload_n 0, 1) := by decide +kernel
theorem dX7_mend_16 : decode cX7_mend 16 = .ok (.iload_n 1, 1) := by decide +kernel
theorem dX7_mend_17 : decode cX7_mend 17 = .ok (.invokevirtual 250, 3) := by decide +kernel
theorem dX7_mend_20 : decode cX7_mend 20 = .ok (.aload_n 0, 1) := by decide +kernel
theorem dX7_mend_21 : decode cX7_mend 21 = .ok (.getfield 22, 3) := by decide +kernel
theorem dX7_mend_24 : decode cX7_mend 24 = .ok (.iload_n 2, 1) := by decide +kernel
theorem dX7_mend_25 : decode cX7_mend 25 = .ok (.iaload, 1) := by decide +kernel
theorem dX7_mend_26 : decode cX7_mend 26 = .ok (.bipush 36, 2) := by decide +kernel
theorem dX7_mend_28 : decode cX7_mend 28 = .ok (.if_icmp .le 12, 3) := by decide +kernel
theorem dX7_mend_31 : decode cX7_mend 31 = .ok (.aload_n 0, 1) := by decide +kernel
theorem dX7_mend_32 : decode cX7_mend 32 = .ok (.ldc 100, 2) := by decide +kernel
theorem dX7_mend_34 : decode cX7_mend 34 = .ok (.invokevirtual 101, 3) := by decide +kernel
theorem dX7_mend_37 : decode cX7_mend 37 = .ok (.goto 9, 3) := by decide +kernel
theorem dX7_mend_40 : decode cX7_mend 40 = .ok (.aload_n 0, 1) := by decide +kernel
theorem dX7_mend_41 : decode cX7_mend 41 = .ok (.getfield 22, 3) := by decide +kernel
theorem dX7_mend_44 : decode cX7_mend 44 = .ok (.iload_n 2, 1) := by decide +kernel
theorem dX7_mend_45 : decode cX7_mend 45 = .ok (.iaload, 1) := by decide +kernel
theorem dX7_mend_46 : decode cX7_mend 46 = .ok (.ireturn, 1) := by decide +kernel
set_option maxRecDepth 20000 in
theorem ggX7_behind_X7_copyRow : GoodIn wsX7_behind wsX7_copyRow := goodIn_r _ [6] (by decide +kernel) (by decide +kernel)
set_option maxRecDepth 20000 in
theorem gX7_behind_X7_copyRow : GoodIn wsX7_behind (va_wsS RX7 96 yX7_copyRow wsX7_copyRow) := goodIn_app (goodIn_of _ (by decide +kernel)) ggX7_behind_X7_copyRow
set_option maxRecDepth 20000 in
theorem ggX7_behind_X7_seasons : GoodIn wsX7_behind wsX7_seasons := goodIn_r _ [10, 11, 12, 13, 5, 14, 1, 15, 16, 17, 18, 19, 20, 21, 22, 23, 24, 25, 26, 27, 28, 29, 30, 31, 32, 33, 34, 35, 36, 37, 38, 39, 40, 41, 42, 43, 44, 45, 46, 47, 48, 49, 50, 51, 52, 53, 54, 55, 56, 57, 58, 59, 60, 61, 62, 63, 64, 65, 66, 67, 68, 69, 70, 71, 76, 77, 78, 79, 80, 81, 82, 83, 84, 85, 86, 87, 88, 89, 90, 91, 92, 93, 94, 95, 96, 97, 98, 99, 100, 101, 102] (by decide +kernel) (by decide +kernel)
set_option maxRecDepth 20000 in
theorem gX7_behind_X7_seasons : GoodIn wsX7_behind (wsV RX7 206 RX7 yX7_seasons wsX7_seasons) := goodIn_app (goodIn_of _ (by decide +kernel)) ggX7_behind_X7_seasons
set_option maxRecDepth 20000 in
theorem ggX7_behind_X7_putBack : GoodIn wsX7_behind wsX7_putBack := goodIn_r _ [75, 2, 1, 3, 4, 5, 6, 76, 77, 78, 79, 80, 81, 82, 83, 84, 85, 86, 87, 88, 89, 90, 91, 92, 93, 94, 95, 96, 97, 98, 99, 100, 101, 102] (by decide +kernel) (by decide +kernel)
set_option maxRecDepth 20000 in
theorem gX7_behind_X7_putBack : GoodIn wsX7_behind (wsV RX7 253 RX7 yX7_putBack wsX7_putBack) := goodIn_app (goodIn_of _ (by decide +kernel)) ggX7_behind_X7_putBack
theorem dX7_behind_0 : decode cX7_behind 0 = .ok (.aload_n 0, 1) := by decide +kernel
theorem dX7_behind_1 : decode cX7_behind 1 = .ok (.getfield 9, 3) := by decide +kernel
theorem dX7_behind_4 : decode cX7_behind 4 = .ok (.aload_n 0, 1) := by decide +kernel
theorem dX7_behind_5 : decode cX7_behind 5 = .ok (.getfield 16, 3) := by decide +kernel
theorem dX7_behind_8 : decode cX7_behind 8 = .ok (.invokestatic 96, 3) := by decide +kernel
theorem dX7_behind_11 : decode cX7_behind 11 = .ok (.aload_n 0, 1) := by decide +kernel
theorem dX7_behind_12 : decode cX7_behind 12 = .ok (.iload_n 2, 1) := by decide +kernel
theorem dX7_behind_13 : decode cX7_behind 13 = .ok (.invokevirtual 206, 3) := by decide +kernel
theorem dX7_behind_16 : decode cX7_behind 16 = .ok (.aload_n 0, 1) := by decide +kernel
theorem dX7_behind_17 : decode cX7_behind 17 = .ok (.aload_n 0, 1) := by decide +kernel
theorem dX7_behind_18 : decode cX7_behind 18 = .ok (.getfield 9, 3) := by decide +kernel
theorem dX7_behind_21 : decode cX7_behind 21 = .ok (.iload_n 1, 1) := by decide +kernel
theorem dX7_behind_22 : decode cX7_behind 22 = .ok (.iaload, 1) := by decide +kernel
theorem dX7_behind_23 : decode cX7_behind 23 = .ok (.invokevirtual 253, 3) := by decide +kernel
theorem dX7_behind_26 : decode cX7_behind 26 = .ok (.ireturn, 1) := by decide +kernel
set_option maxRecDepth 20000 in
theorem ggX7_ahead_X7_isCell : GoodIn wsX7_ahead wsX7_isCell := goodIn_r _ [5, 6, 7, 4, 8] (by decide +kernel) (by decide +kernel)
set_option maxRecDepth 20000 in
theorem gX7_ahead_X7_isCell : GoodIn wsX7_ahead (va_wsS RX7 116 yX7_isCell wsX7_isCell) := goodIn_app (goodIn_of _ (by decide +kernel)) ggX7_ahead_X7_isCell
set_option maxRecDepth 20000 in
theorem ggX7_ahead_X7_within : GoodIn wsX7_ahead wsX7_within := goodIn_r _ [8] (by decide +kernel) (by decide +kernel)
set_option maxRecDepth 20000 in
theorem gX7_ahead_X7_within : GoodIn wsX7_ahead (va_wsS RX7 105 yX7_within wsX7_within) := goodIn_app (goodIn_of _ (by decide +kernel)) ggX7_ahead_X7_within
set_option maxRecDepth 20000 in
theorem ggX7_ahead_X7_behind : GoodIn wsX7_ahead wsX7_behind := goodIn_r _ [12, 13, 14, 15, 16, 4, 17, 18, 19, 20, 21, 22, 23, 24, 25, 26, 27, 28, 29, 30, 31, 32, 33, 34, 35, 36, 37, 38, 39, 40, 41, 42, 43, 44, 45, 46, 47, 48, 49, 50, 51, 52, 53, 54, 55, 56, 57, 58, 59, 60, 61, 62, 63, 64, 65, 66, 67, 68, 69, 70, 71, 72, 73, 74, 75, 76, 77, 78, 79, 80, 81, 82, 83, 84, 85, 86, 92, 93, 94, 95, 96, 97, 98, 99, 100, 101, 102, 103, 104, 105, 106, 107, 108, 109, 110, 111, 112, 113, 114, 115, 116, 117, 118] (by decide +kernel) (by decide +kernel)
set_option maxRecDepth 20000 in
theorem gX7_ahead_X7_behind : GoodIn wsX7_ahead (wsV RX7 256 RX7 yX7_behind wsX7_behind) := goodIn_app (goodIn_of _ (by decide +kernel)) ggX7_ahead_X7_behind
set_option maxRecDepth 20000 in
theorem ggX7_ahead_X7_finding : GoodIn wsX7_ahead wsX7_finding := goodIn_r _ [90, 91, 1, 92, 93, 94, 95, 96, 97, 98, 99, 100, 101, 102, 103, 104, 105, 106, 107, 108, 109, 110, 111, 112, 113, 114, 115, 116, 117, 118] (by decide +kernel) (by decide +kernel)
set_option maxRecDepth 20000 in
theorem gX7_ahead_X7_finding : GoodIn wsX7_ahead (wsV RX7 101 RX7 yX7_finding wsX7_finding) := goodIn_app (goodIn_of _ (by decide +kernel)) ggX7_ahead_X7_finding
theorem dX7_ahead_0 : decode cX7_ahead 0 = .ok (.iload_n 1, 1) := by decide +kernel
theorem dX7_ahead_1 : decode cX7_ahead 1 = .ok (.invokestatic 116, 3) := by decide +kernel
theorem dX7_ahead_4 : decode cX7_ahead 4 = .ok (.ifCond .eq 25, 3) := by decide +kernel
theorem dX7_ahead_7 : decode cX7_ahead 7 = .ok (.iload_n 2, 1) := by decide +kernel
theorem dX7_ahead_8 : decode cX7_ahead 8 = .ok (.iconst 0, 1) := by decide +kernel
theorem dX7_ahead_9 : decode cX7_ahead 9 = .ok (.bipush 60, 2) := by decide +kernel
theorem dX7_ahead_11 : decode cX7_ahead 11 = .ok (.invokestatic 105, 3) := by decide +kernel
theorem dX7_ahead_14 : decode cX7_ahead 14 = .ok (.ifCond .eq 15, 3) := by decide +kernel
theorem dX7_ahead_17 : decode cX7_ahead 17 = .ok (.aload_n 0, 1) := by decide +kernel
theorem dX7_ahead_18 : decode cX7_ahead 18 = .ok (.bipush 49, 2) := by decide +kernel
theorem dX7_ahead_20 : decode cX7_ahead 20 = .ok (.iload_n 1, 1) := by decide +kernel
theorem dX7_ahead_21 : decode cX7_ahead 21 = .ok (.iadd, 1) := by decide +kernel
theorem dX7_ahead_22 : decode cX7_ahead 22 = .ok (.iload_n 2, 1) := by decide +kernel
theorem dX7_ahead_23 : decode cX7_ahead 23 = .ok (.invokevirtual 256, 3) := by decide +kernel
theorem dX7_ahead_26 : decode cX7_ahead 26 = .ok (.goto 9, 3) := by decide +kernel
theorem dX7_ahead_29 : decode cX7_ahead 29 = .ok (.aload_n 0, 1) := by decide +kernel
theorem dX7_ahead_30 : decode cX7_ahead 30 = .ok (.ldc 95, 2) := by decide +kernel
theorem dX7_ahead_32 : decode cX7_ahead 32 = .ok (.invokevirtual 101, 3) := by decide +kernel
theorem dX7_ahead_35 : decode cX7_ahead 35 = .ok (.ireturn, 1) := by decide +kernel
set_option maxRecDepth 20000 in
theorem ggX7_head_X7_isSeed : GoodIn wsX7_head wsX7_isSeed := goodIn_r _ [6, 7, 8, 9, 5, 10, 93, 94, 95, 96, 97, 98, 99, 100, 101, 102, 103, 104, 105, 106, 107, 108, 109, 110, 111, 112, 113, 114, 115, 116, 117, 118, 119] (by decide +kernel) (by decide +kernel)
set_option maxRecDepth 20000 in
theorem gX7_head_X7_isSeed : GoodIn wsX7_head (wsV RX7 182 RX7 yX7_isSeed wsX7_isSeed) := goodIn_app (goodIn_of _ (by decide +kernel)) ggX7_head_X7_isSeed
set_option maxRecDepth 20000 in
theorem ggX7_head_X7_within : GoodIn wsX7_head wsX7_within := goodIn_r _ [10] (by decide +kernel) (by decide +kernel)
set_option maxRecDepth 20000 in
theorem gX7_head_X7_within : GoodIn wsX7_head (va_wsS RX7 105 yX7_within wsX7_within) := goodIn_app (goodIn_of _ (by decide +kernel)) ggX7_head_X7_within
set_option maxRecDepth 20000 in
theorem ggX7_head_X7_at : GoodIn wsX7_head wsX7_at := goodIn_r _ [13] (by decide +kernel) (by decide +kernel)
set_option maxRecDepth 20000 in
theorem gX7_head_X7_at : GoodIn wsX7_head (va_wsS RX7 109 yX7_at wsX7_at) := goodIn_app (goodIn_of _ (by decide +kernel)) ggX7_head_X7_at
set_option maxRecDepth 20000 in
theorem ggX7_head_X7_behind : GoodIn wsX7_head wsX7_behind := goodIn_r _ [17, 7, 18, 19, 20, 5, 21, 22, 23, 24, 25, 26, 27, 28, 29, 30, 31, 32, 33, 34, 35, 36, 37, 38, 39, 40, 41, 42, 11, 12, 13, 43, 44, 45, 46, 47, 48, 49, 50, 51, 52, 53, 54, 55, 56, 57, 58, 59, 60, 61, 62, 63, 64, 65, 66, 67, 68, 69, 70, 71, 72, 73, 74, 75, 76, 77, 78, 79, 80, 81, 82, 83, 84, 85, 86, 87, 93, 94, 95, 96, 97, 98, 99, 100, 101, 102, 103, 104, 105, 106, 107, 108, 109, 110, 111, 112, 113, 114, 115, 116, 117, 118, 119] (by decide +kernel) (by decide +kernel)
set_option maxRecDepth 20000 in
theorem gX7_head_X7_behind : GoodIn wsX7_head (wsV RX7 256 RX7 yX7_behind wsX7_behind) := goodIn_app (goodIn_of _ (by decide +kernel)) ggX7_head_X7_behind
set_option maxRecDepth 20000 in
theorem ggX7_head_X7_finding : GoodIn wsX7_head wsX7_finding := goodIn_r _ [91, 92, 1, 93, 94, 95, 96, 97, 98, 99, 100, 101, 102, 103, 104, 105, 106, 107, 108, 109, 110, 111, 112, 113, 114, 115, 116, 117, 118, 119] (by decide +kernel) (by decide +kernel)
set_option maxRecDepth 20000 in
theorem gX7_head_X7_finding : GoodIn wsX7_head (wsV RX7 101 RX7 yX7_finding wsX7_finding) := goodIn_app (goodIn_of _ (by decide +kernel)) ggX7_head_X7_finding
theorem dX7_head_0 : decode cX7_head 0 = .ok (.aload_n 0, 1) := by decide +kernel
theorem dX7_head_1 : decode cX7_head 1 = .ok (.iload_n 1, 1) := by decide +kernel
theorem dX7_head_2 : decode cX7_head 2 = .ok (.invokevirtual 182, 3) := by decide +kernel
theorem dX7_head_5 : decode cX7_head 5 = .ok (.ifCond .eq 26, 3) := by decide +kernel
theorem dX7_head_8 : decode cX7_head 8 = .ok (.iload_n 2, 1) := by decide +kernel
theorem dX7_head_9 : decode cX7_head 9 = .ok (.iconst 0, 1) := by decide +kernel
theorem dX7_head_10 : decode cX7_head 10 = .ok (.bipush 60, 2) := by decide +kernel
theorem dX7_head_12 : decode cX7_head 12 = .ok (.invokestatic 105, 3) := by decide +kernel
theorem dX7_head_15 : decode cX7_head 15 = .ok (.ifCond .eq 16, 3) := by decide +kernel
theorem dX7_head_18 : decode cX7_head 18 = .ok (.aload_n 0, 1) := by decide +kernel
theorem dX7_head_19 : decode cX7_head 19 = .ok (.iload_n 1, 1) := by decide +kernel
theorem dX7_head_20 : decode cX7_head 20 = .ok (.iconst 1, 1) := by decide +kernel
theorem dX7_head_21 : decode cX7_head 21 = .ok (.invokestatic 109, 3) := by decide +kernel
theorem dX7_head_24 : decode cX7_head 24 = .ok (.iload_n 2, 1) := by decide +kernel
theorem dX7_head_25 : decode cX7_head 25 = .ok (.invokevirtual 256, 3) := by decide +kernel
theorem dX7_head_28 : decode cX7_head 28 = .ok (.goto 9, 3) := by decide +kernel
theorem dX7_head_31 : decode cX7_head 31 = .ok (.aload_n 0, 1) := by decide +kernel
theorem dX7_head_32 : decode cX7_head 32 = .ok (.ldc 95, 2) := by decide +kernel
theorem dX7_head_34 : decode cX7_head 34 = .ok (.invokevirtual 101, 3) := by decide +kernel
theorem dX7_head_37 : decode cX7_head 37 = .ok (.ireturn, 1) := by decide +kernel
set_option maxRecDepth 20000 in
theorem ggX7_when_X7_areCells : GoodIn wsX7_when wsX7_areCells := goodIn_r _ [7, 8, 9, 6, 10, 11, 12, 13] (by decide +kernel) (by decide +kernel)
set_option maxRecDepth 20000 in
theorem gX7_when_X7_areCells : GoodIn wsX7_when (va_wsS RX7 225 yX7_areCells wsX7_areCells) := goodIn_app (goodIn_of _ (by decide +kernel)) ggX7_when_X7_areCells
set_option maxRecDepth 20000 in
theorem ggX7_when_X7_finding : GoodIn wsX7_when wsX7_finding := goodIn_r _ [17, 18, 1, 106, 107, 108, 109, 110, 111, 112, 113, 114, 115, 116, 117, 118, 119, 120, 121, 122, 123, 124, 125, 126, 127, 128, 129, 130, 131, 132] (by decide +kernel) (by decide +kernel)
set_option maxRecDepth 20000 in
theorem gX7_when_X7_finding : GoodIn wsX7_when (wsV RX7 101 RX7 yX7_finding wsX7_finding) := goodIn_app (goodIn_of _ (by decide +kernel)) ggX7_when_X7_finding
set_option maxRecDepth 20000 in
theorem ggX7_when_X7_copyRow : GoodIn wsX7_when wsX7_copyRow := goodIn_r _ [21] (by decide +kernel) (by decide +kernel)
set_option maxRecDepth 20000 in
theorem gX7_when_X7_copyRow : GoodIn wsX7_when (va_wsS RX7 96 yX7_copyRow wsX7_copyRow) := goodIn_app (goodIn_of _ (by decide +kernel)) ggX7_when_X7_copyRow
set_option maxRecDepth 20000 in
theorem ggX7_when_X7_areJoined : GoodIn wsX7_when wsX7_areJoined := goodIn_r _ [25, 26, 27, 28, 29, 6, 30, 31, 32, 33, 34, 35, 2, 36, 37, 38, 106, 107, 108, 109, 110, 111, 112, 113, 114, 115, 116, 117, 118, 119, 120, 121, 122, 123, 124, 125, 126, 127, 128, 129, 130, 131, 132] (by decide +kernel) (by decide +kernel)
set_option maxRecDepth 20000 in
theorem gX7_when_X7_areJoined : GoodIn wsX7_when (wsV RX7 240 RX7 yX7_areJoined wsX7_areJoined) := goodIn_app (goodIn_of _ (by decide +kernel)) ggX7_when_X7_areJoined
set_option maxRecDepth 20000 in
theorem ggX7_when_X7_season : GoodIn wsX7_when wsX7_season := goodIn_r _ [42, 2, 43, 44, 45, 46, 47, 48, 49, 6, 50, 51, 52, 53, 54, 55, 56, 57, 58, 59, 60, 61, 62, 63, 64, 65, 66, 67, 68, 69, 70, 71, 72, 73, 74, 75, 76, 77, 78, 79, 80, 81, 82, 83, 84, 36, 37, 38, 85, 86, 87, 88, 89, 90, 91, 92, 93, 94, 95, 96, 106, 107, 108, 109, 110, 111, 112, 113, 114, 115, 116, 117, 118, 119, 120, 121, 122, 123, 124, 125, 126, 127, 128, 129, 130, 131, 132] (by decide +kernel) (by decide +kernel)
set_option maxRecDepth 20000 in
theorem gX7_when_X7_season : GoodIn wsX7_when (wsV RX7 199 RX7 yX7_season wsX7_season) := goodIn_app (goodIn_of _ (by decide +kernel)) ggX7_when_X7_season
set_option maxRecDepth 20000 in
theorem ggX7_when_X7_putBack : GoodIn wsX7_when wsX7_putBack := goodIn_r _ [100, 3, 2, 19, 20, 6, 21, 106, 107, 108, 109, 110, 111, 112, 113, 114, 115, 116, 117, 118, 119, 120, 121, 122, 123, 124, 125, 126, 127, 128, 129, 130, 131, 132] (by decide +kernel) (by decide +kernel)
set_option maxRecDepth 20000 in
theorem gX7_when_X7_putBack : GoodIn wsX7_when (wsV RX7 253 RX7 yX7_putBack wsX7_putBack) := goodIn_app (goodIn_of _ (by decide +kernel)) ggX7_when_X7_putBack
set_option maxRecDepth 20000 in
theorem ggX7_when_X7_orNone : GoodIn wsX7_when wsX7_orNone := goodIn_r _ [104, 105, 14, 15, 16, 6, 17, 18, 1, 106, 107, 108, 109, 110, 111, 112, 113, 114, 115, 116, 117, 118, 119, 120, 121, 122, 123, 124, 125, 126, 127, 128, 129, 130, 131, 132] (by decide +kernel) (by decide +kernel)
set_option maxRecDepth 20000 in
theorem gX7_when_X7_orNone : GoodIn wsX7_when (wsV RX7 228 RX7 yX7_orNone wsX7_orNone) := goodIn_app (goodIn_of _ (by decide +kernel)) ggX7_when_X7_orNone
theorem dX7_when_0 : decode cX7_when 0 = .ok (.iload_n 1, 1) := by decide +kernel
theorem dX7_when_1 : decode cX7_when 1 = .ok (.iload_n 2, 1) := by decide +kernel
theorem dX7_when_2 : decode cX7_when 2 = .ok (.invokestatic 225, 3) := by decide +kernel
theorem dX7_when_5 : decode cX7_when 5 = .ok (.ifCond .ne 10, 3) := by decide +kernel
theorem dX7_when_8 : decode cX7_when 8 = .ok (.aload_n 0, 1) := by decide +kernel
theorem dX7_when_9 : decode cX7_when 9 = .ok (.ldc 95, 2) := by decide +kernel
theorem dX7_when_11 : decode cX7_when 11 = .ok (.invokevirtual 101, 3) := by decide +kernel
theorem dX7_when_14 : decode cX7_when 14 = .ok (.ireturn, 1) := by decide +kernel
theorem dX7_when_15 : decode cX7_when 15 = .ok (.aload_n 0, 1) := by decide +kernel
theorem dX7_when_16 : decode cX7_when 16 = .ok (.getfield 9, 3) := by decide +kernel
theorem dX7_when_19 : decode cX7_when 19 = .ok (.aload_n 0, 1) := by decide +kernel
theorem dX7_when_20 : decode cX7_when 20 = .ok (.getfield 16, 3) := by decide +kernel
theorem dX7_when_23 : decode cX7_when 23 = .ok (.invokestatic 96, 3) := by decide +kernel
theorem dX7_when_26 : decode cX7_when 26 = .ok (.iconst 0, 1) := by decide +kernel
theorem dX7_when_27 : decode cX7_when 27 = .ok (.istore_n 3, 1) := by decide +kernel
theorem dX7_when_28 : decode cX7_when 28 = .ok (.iload_n 3, 1) := by decide +kernel
theorem dX7_when_29 : decode cX7_when 29 = .ok (.bipush 60, 2) := by decide +kernel
theorem dX7_when_31 : decode cX7_when 31 = .ok (.if_icmp .ge 22, 3) := by decide +kernel
theorem dX7_when_34 : decode cX7_when 34 = .ok (.aload_n 0, 1) := by decide +kernel
theorem dX7_when_35 : decode cX7_when 35 = .ok (.iload_n 1, 1) := by decide +kernel
theorem dX7_when_36 : decode cX7_when 36 = .ok (.iload_n 2, 1) := by decide +kernel
theorem dX7_when_37 : decode cX7_when 37 = .ok (.invokevirtual 240, 3) := by decide +kernel
theorem dX7_when_40 : decode cX7_when 40 = .ok (.ifCond .ne 13, 3) := by decide +kernel
theorem dX7_when_43 : decode cX7_when 43 = .ok (.aload_n 0, 1) := by decide +kernel
theorem dX7_when_44 : decode cX7_when 44 = .ok (.invokevirtual 199, 3) := by decide +kernel
theorem dX7_when_47 : decode cX7_when 47 = .ok (.iinc 3 1, 3) := by decide +kernel
theorem dX7_when_50 : decode cX7_when 50 = .ok (.goto (-22), 3) := by decide +kernel
theorem dX7_when_53 : decode cX7_when 53 = .ok (.aload_n 0, 1) := by decide +kernel
theorem dX7_when_54 : decode cX7_when 54 = .ok (.aload_n 0, 1) := by decide +kernel
theorem dX7_when_55 : decode cX7_when 55 = .ok (.aload_n 0, 1) := by decide +kernel
theorem dX7_when_56 : decode cX7_when 56 = .ok (.iload_n 1, 1) := by decide +kernel
theorem dX7_when_57 : decode cX7_when 57 = .ok (.iload_n 2, 1) := by decide +kernel
theorem dX7_when_58 : decode cX7_when 58 = .ok (.invokevirtual 240, 3) := by decide +kernel
theorem dX7_when_61 : decode cX7_when 61 = .ok (.ifCond .eq 7, 3) := by decide +kernel
theorem dX7_when_64 : decode cX7_when 64 = .ok (.iload_n 3, 1) := by decide +kernel
theorem dX7_when_65 : decode cX7_when 65 = .ok (.goto 4, 3) := by decide +kernel
theorem dX7_when_68 : decode cX7_when 68 = .ok (.iconst (-1), 1) := by decide +kernel
theorem dX7_when_69 : decode cX7_when 69 = .ok (.invokevirtual 253, 3) := by decide +kernel
theorem dX7_when_72 : decode cX7_when 72 = .ok (.invokevirtual 228, 3) := by decide +kernel
theorem dX7_when_75 : decode cX7_when 75 = .ok (.ireturn, 1) := by decide +kernel
set_option maxRecDepth 20000 in
theorem ggX7_bare_X7_copyRow : GoodIn wsX7_bare wsX7_copyRow := goodIn_r _ [6] (by decide +kernel) (by decide +kernel)
set_option maxRecDepth 20000 in
theorem gX7_bare_X7_copyRow : GoodIn wsX7_bare (va_wsS RX7 96 yX7_copyRow wsX7_copyRow) := goodIn_app (goodIn_of _ (by decide +kernel)) ggX7_bare_X7_copyRow
set_option maxRecDepth 20000 in
theorem ggX7_bare_X7_pathsNow : GoodIn wsX7_bare wsX7_pathsNow := goodIn_r _ [10, 11, 12, 13, 5, 14, 1, 91, 92, 93, 94, 95, 96, 97, 98, 99, 100, 101, 102, 103, 104, 105, 106, 107, 108, 109, 110, 111, 112, 113, 114, 115, 116, 117] (by decide +kernel) (by decide +kernel)
set_option maxRecDepth 20000 in
theorem gX7_bare_X7_pathsNow : GoodIn wsX7_bare (wsV RX7 209 RX7 yX7_pathsNow wsX7_pathsNow) := goodIn_app (goodIn_of _ (by decide +kernel)) ggX7_bare_X7_pathsNow
set_option maxRecDepth 20000 in
theorem ggX7_bare_X7_season : GoodIn wsX7_bare wsX7_season := goodIn_r _ [18, 1, 19, 20, 21, 22, 23, 24, 25, 5, 26, 27, 28, 29, 30, 31, 32, 33, 34, 35, 36, 37, 38, 39, 40, 41, 42, 43, 44, 45, 46, 47, 48, 49, 50, 51, 52, 53, 54, 55, 56, 57, 58, 59, 60, 61, 62, 63, 64, 65, 66, 67, 68, 69, 70, 71, 72, 73, 74, 75, 91, 92, 93, 94, 95, 96, 97, 98, 99, 100, 101, 102, 103, 104, 105, 106, 107, 108, 109, 110, 111, 112, 113, 114, 115, 116, 117] (by decide +kernel) (by decide +kernel)
set_option maxRecDepth 20000 in
theorem gX7_bare_X7_season : GoodIn wsX7_bare (wsV RX7 199 RX7 yX7_season wsX7_season) := goodIn_app (goodIn_of _ (by decide +kernel)) ggX7_bare_X7_season
set_option maxRecDepth 20000 in
theorem ggX7_bare_X7_putBack : GoodIn wsX7_bare wsX7_putBack := goodIn_r _ [79, 2, 1, 3, 4, 5, 6, 91, 92, 93, 94, 95, 96, 97, 98, 99, 100, 101, 102, 103, 104, 105, 106, 107, 108, 109, 110, 111, 112, 113, 114, 115, 116, 117] (by decide +kernel) (by decide +kernel)
set_option maxRecDepth 20000 in
theorem gX7_bare_X7_putBack : GoodIn wsX7_bare (wsV RX7 253 RX7 yX7_putBack wsX7_putBack) := goodIn_app (goodIn_of _ (by decide +kernel)) ggX7_bare_X7_putBack
set_option maxRecDepth 20000 in
theorem ggX7_bare_X7_orNone : GoodIn wsX7_bare wsX7_orNone := goodIn_r _ [83, 84, 85, 86, 87, 5, 88, 89, 90, 91, 92, 93, 94, 95, 96, 97, 98, 99, 100, 101, 102, 103, 104, 105, 106, 107, 108, 109, 110, 111, 112, 113, 114, 115, 116, 117] (by decide +kernel) (by decide +kernel)
set_option maxRecDepth 20000 in
theorem gX7_bare_X7_orNone : GoodIn wsX7_bare (wsV RX7 228 RX7 yX7_orNone wsX7_orNone) := goodIn_app (goodIn_of _ (by decide +kernel)) ggX7_bare_X7_orNone
theorem dX7_bare_0 : decode cX7_bare 0 = .ok (.aload_n 0, 1) := by decide +kernel
theorem dX7_bare_1 : decode cX7_bare 1 = .ok (.getfield 9, 3) := by decide +kernel
theorem dX7_bare_4 : decode cX7_bare 4 = .ok (.aload_n 0, 1) := by decide +kernel
theorem dX7_bare_5 : decode cX7_bare 5 = .ok (.getfield 16, 3) := by decide +kernel
theorem dX7_bare_8 : decode cX7_bare 8 = .ok (.invokestatic 96, 3) := by decide +kernel
theorem dX7_bare_11 : decode cX7_bare 11 = .ok (.iconst 0, 1) := by decide +kernel
theorem dX7_bare_12 : decode cX7_bare 12 = .ok (.istore_n 1, 1) := by decide +kernel
theorem dX7_bare_13 : decode cX7_bare 13 = .ok (.iload_n 1, 1) := by decide +kernel
theorem dX7_bare_14 : decode cX7_bare 14 = .ok (.bipush 60, 2) := by decide +kernel
theorem dX7_bare_16 : decode cX7_bare 16 = .ok (.if_icmp .ge 20, 3) := by decide +kernel
theorem dX7_bare_19 : decode cX7_bare 19 = .ok (.aload_n 0, 1) := by decide +kernel
theorem dX7_bare_20 : decode cX7_bare 20 = .ok (.invokevirtual 209, 3) := by decide +kernel
theorem dX7_bare_23 : decode cX7_bare 23 = .ok (.ifCond .le 13, 3) := by decide +kernel
theorem dX7_bare_26 : decode cX7_bare 26 = .ok (.aload_n 0, 1) := by decide +kernel
theorem dX7_bare_27 : decode cX7_bare 27 = .ok (.invokevirtual 199, 3) := by decide +kernel
theorem dX7_bare_30 : decode cX7_bare 30 = .ok (.iinc 1 1, 3) := by decide +kernel
theorem dX7_bare_33 : decode cX7_bare 33 = .ok (.goto (-20), 3) := by decide +kernel
theorem dX7_bare_36 : decode cX7_bare 36 = .ok (.aload_n 0, 1) := by decide +kernel
theorem dX7_bare_37 : decode cX7_bare 37 = .ok (.aload_n 0, 1) := by decide +kernel
theorem dX7_bare_38 : decode cX7_bare 38 = .ok (.aload_n 0, 1) := by decide +kernel
theorem dX7_bare_39 : decode cX7_bare 39 = .ok (.invokevirtual 209, 3) := by decide +kernel
theorem dX7_bare_42 : decode cX7_bare 42 = .ok (.ifCond .ne 7, 3) := by decide +kernel
theorem dX7_bare_45 : decode cX7_bare 45 = .ok (.iload_n 1, 1) := by decide +kernel
theorem dX7_bare_46 : decode cX7_bare 46 = .ok (.goto 4, 3) := by decide +kernel
theorem dX7_bare_49 : decode cX7_bare 49 = .ok (.iconst (-1), 1) := by decide +kernel
theorem dX7_bare_50 : decode cX7_bare 50 = .ok (.invokevirtual 253, 3) := by decide +kernel
theorem dX7_bare_53 : decode cX7_bare 53 = .ok (.invokevirtual 228, 3) := by decide +kernel
theorem dX7_bare_56 : decode cX7_bare 56 = .ok (.ireturn, 1) := by decide +kernel
set_option maxRecDepth 20000 in
theorem ggX7_there_X7_within : GoodIn wsX7_there wsX7_within := goodIn_r _ [7] (by decide +kernel) (by decide +kernel)
set_option maxRecDepth 20000 in
theorem gX7_there_X7_within : GoodIn wsX7_there (va_wsS RX7 105 yX7_within wsX7_within) := goodIn_app (goodIn_of _ (by decide +kernel)) ggX7_there_X7_within
set_option maxRecDepth 20000 in
theorem ggX7_there_X7_finding : GoodIn wsX7_there wsX7_finding := goodIn_r _ [11, 12, 1, 89, 90, 91, 92, 93, 94, 95, 96, 97, 98, 99, 100, 101, 102, 103, 104, 105, 106, 107, 108, 109, 110, 111, 112, 113, 114, 115] (by decide +kernel) (by decide +kernel)
set_option maxRecDepth 20000 in
theorem gX7_there_X7_finding : GoodIn wsX7_there (wsV RX7 101 RX7 yX7_finding wsX7_finding) := goodIn_app (goodIn_of _ (by decide +kernel)) ggX7_there_X7_finding
set_option maxRecDepth 20000 in
theorem ggX7_there_X7_copyRow : GoodIn wsX7_there wsX7_copyRow := goodIn_r _ [15] (by decide +kernel) (by decide +kernel)
set_option maxRecDepth 20000 in
theorem gX7_there_X7_copyRow : GoodIn wsX7_there (va_wsS RX7 96 yX7_copyRow wsX7_copyRow) := goodIn_app (goodIn_of _ (by decide +kernel)) ggX7_there_X7_copyRow
set_option maxRecDepth 20000 in
theorem ggX7_there_X7_seasons : GoodIn wsX7_there wsX7_seasons := goodIn_r _ [19, 20, 21, 22, 6, 23, 2, 24, 25, 26, 27, 28, 29, 30, 31, 32, 33, 34, 35, 36, 37, 38, 39, 40, 41, 42, 43, 44, 45, 46, 47, 48, 49, 50, 51, 52, 53, 54, 55, 56, 57, 58, 59, 60, 61, 62, 63, 64, 65, 66, 67, 68, 69, 70, 71, 72, 73, 74, 75, 76, 77, 78, 79, 80, 89, 90, 91, 92, 93, 94, 95, 96, 97, 98, 99, 100, 101, 102, 103, 104, 105, 106, 107, 108, 109, 110, 111, 112, 113, 114, 115] (by decide +kernel) (by decide +kernel)
set_option maxRecDepth 20000 in
theorem gX7_there_X7_seasons : GoodIn wsX7_there (wsV RX7 206 RX7 yX7_seasons wsX7_seasons) := goodIn_app (goodIn_of _ (by decide +kernel)) ggX7_there_X7_seasons
set_option maxRecDepth 20000 in
theorem ggX7_there_X7_pathSet : GoodIn wsX7_there wsX7_pathSet := goodIn_r _ [84, 85, 86, 87, 6, 88, 2, 89, 90, 91, 92, 93, 94, 95, 96, 97, 98, 99, 100, 101, 102, 103, 104, 105, 106, 107, 108, 109, 110, 111, 112, 113, 114, 115] (by decide +kernel) (by decide +kernel)
set_option maxRecDepth 20000 in
theorem gX7_there_X7_pathSet : GoodIn wsX7_there (wsV RX7 231 RX7 yX7_pathSet wsX7_pathSet) := goodIn_app (goodIn_of _ (by decide +kernel)) ggX7_there_X7_pathSet
theorem dX7_there_0 : decode cX7_there 0 = .ok (.iload_n 1, 1) := by decide +kernel
theorem dX7_there_1 : decode cX7_there 1 = .ok (.iconst 0, 1) := by decide +kernel
theorem dX7_there_2 : decode cX7_there 2 = .ok (.bipush 60, 2) := by decide +kernel
theorem dX7_there_4 : decode cX7_there 4 = .ok (.invokestatic 105, 3) := by decide +kernel
theorem dX7_there_7 : decode cX7_there 7 = .ok (.ifCond .ne 11, 3) := by decide +kernel
theorem dX7_there_10 : decode cX7_there 10 = .ok (.aload_n 0, 1) := by decide +kernel
theorem dX7_there_11 : decode cX7_there 11 = .ok (.ldc 95, 2) := by decide +kernel
theorem dX7_there_13 : decode cX7_there 13 = .ok (.invokevirtual 101, 3) := by decide +kernel
theorem dX7_there_16 : decode cX7_there 16 = .ok (.i2l, 1) := by decide +kernel
theorem dX7_there_17 : decode cX7_there 17 = .ok (.lreturn, 1) := by decide +kernel
theorem dX7_there_18 : decode cX7_there 18 = .ok (.aload_n 0, 1) := by decide +kernel
theorem dX7_there_19 : decode cX7_there 19 = .ok (.getfield 9, 3) := by decide +kernel
theorem dX7_there_22 : decode cX7_there 22 = .ok (.aload_n 0, 1) := by decide +kernel
theorem dX7_there_23 : decode cX7_there 23 = .ok (.getfield 16, 3) := by decide +kernel
theorem dX7_there_26 : decode cX7_there 26 = .ok (.invokestatic 96, 3) := by decide +kernel
theorem dX7_there_29 : decode cX7_there 29 = .ok (.aload_n 0, 1) := by decide +kernel
theorem dX7_there_30 : decode cX7_there 30 = .ok (.iload_n 1, 1) := by decide +kernel
theorem dX7_there_31 : decode cX7_there 31 = .ok (.invokevirtual 206, 3) := by decide +kernel
theorem dX7_there_34 : decode cX7_there 34 = .ok (.aload_n 0, 1) := by decide +kernel
theorem dX7_there_35 : decode cX7_there 35 = .ok (.invokevirtual 231, 3) := by decide +kernel
theorem dX7_there_38 : decode cX7_there 38 = .ok (.lstore_n 2, 1) := by decide +kernel
theorem dX7_there_39 : decode cX7_there 39 = .ok (.aload_n 0, 1) := by decide +kernel
theorem dX7_there_40 : decode cX7_there 40 = .ok (.getfield 16, 3) := by decide +kernel
theorem dX7_there_43 : decode cX7_there 43 = .ok (.aload_n 0, 1) := by decide +kernel
theorem dX7_there_44 : decode cX7_there 44 = .ok (.getfield 9, 3) := by decide +kernel
theorem dX7_there_47 : decode cX7_there 47 = .ok (.invokestatic 96, 3) := by decide +kernel
theorem dX7_there_50 : decode cX7_there 50 = .ok (.lload_n 2, 1) := by decide +kernel
theorem dX7_there_51 : decode cX7_there 51 = .ok (.lreturn, 1) := by decide +kernel
set_option maxRecDepth 20000 in
theorem ggX7_pathsBehind_X7_copyRow : GoodIn wsX7_pathsBehind wsX7_copyRow := goodIn_r _ [6] (by decide +kernel) (by decide +kernel)
set_option maxRecDepth 20000 in
theorem gX7_pathsBehind_X7_copyRow : GoodIn wsX7_pathsBehind (va_wsS RX7 96 yX7_copyRow wsX7_copyRow) := goodIn_app (goodIn_of _ (by decide +kernel)) ggX7_pathsBehind_X7_copyRow
set_option maxRecDepth 20000 in
theorem ggX7_pathsBehind_X7_seasons : GoodIn wsX7_pathsBehind wsX7_seasons := goodIn_r _ [10, 11, 12, 13, 5, 14, 1, 15, 16, 17, 18, 19, 20, 21, 22, 23, 24, 25, 26, 27, 28, 29, 30, 31, 32, 33, 34, 35, 36, 37, 38, 39, 40, 41, 42, 43, 44, 45, 46, 47, 48, 49, 50, 51, 52, 53, 54, 55, 56, 57, 58, 59, 60, 61, 62, 63, 64, 65, 66, 67, 68, 69, 70, 71, 84, 85, 86, 87, 88, 89, 90, 91, 92, 93, 94, 95, 96, 97, 98, 99, 100, 101, 102, 103, 104, 105, 106, 107, 108, 109, 110] (by decide +kernel) (by decide +kernel)
set_option maxRecDepth 20000 in
theorem gX7_pathsBehind_X7_seasons : GoodIn wsX7_pathsBehind (wsV RX7 206 RX7 yX7_seasons wsX7_seasons) := goodIn_app (goodIn_of _ (by decide +kernel)) ggX7_pathsBehind_X7_seasons
set_option maxRecDepth 20000 in
theorem ggX7_pathsBehind_X7_pathsNow : GoodIn wsX7_pathsBehind wsX7_pathsNow := goodIn_r _ [75, 76, 77, 78, 5, 79, 1, 84, 85, 86, 87, 88, 89, 90, 91, 92, 93, 94, 95, 96, 97, 98, 99, 100, 101, 102, 103, 104, 105, 106, 107, 108, 109, 110] (by decide +kernel) (by decide +kernel)
set_option maxRecDepth 20000 in
theorem gX7_pathsBehind_X7_pathsNow : GoodIn wsX7_pathsBehind (wsV RX7 209 RX7 yX7_pathsNow wsX7_pathsNow) := goodIn_app (goodIn_of _ (by decide +kernel)) ggX7_pathsBehind_X7_pathsNow
set_option maxRecDepth 20000 in
theorem ggX7_pathsBehind_X7_putBack : GoodIn wsX7_pathsBehind wsX7_putBack := goodIn_r _ [83, 2, 1, 3, 4, 5, 6, 84, 85, 86, 87, 88, 89, 90, 91, 92, 93, 94, 95, 96, 97, 98, 99, 100, 101, 102, 103, 104, 105, 106, 107, 108, 109, 110] (by decide +kernel) (by decide +kernel)
set_option maxRecDepth 20000 in
theorem gX7_pathsBehind_X7_putBack : GoodIn wsX7_pathsBehind (wsV RX7 253 RX7 yX7_putBack wsX7_putBack) := goodIn_app (goodIn_of _ (by decide +kernel)) ggX7_pathsBehind_X7_putBack
theorem dX7_pathsBehind_0 : decode cX7_pathsBehind 0 = .ok (.aload_n 0, 1) := by decide +kernel
theorem dX7_pathsBehind_1 : decode cX7_pathsBehind 1 = .ok (.getfield 9, 3) := by decide +kernel
theorem dX7_pathsBehind_4 : decode cX7_pathsBehind 4 = .ok (.aload_n 0, 1) := by decide +kernel
theorem dX7_pathsBehind_5 : decode cX7_pathsBehind 5 = .ok (.getfield 16, 3) := by decide +kernel
theorem dX7_pathsBehind_8 : decode cX7_pathsBehind 8 = .ok (.invokestatic 96, 3) := by decide +kernel
theorem dX7_pathsBehind_11 : decode cX7_pathsBehind 11 = .ok (.aload_n 0, 1) := by decide +kernel
theorem dX7_pathsBehind_12 : decode cX7_pathsBehind 12 = .ok (.iload_n 1, 1) := by decide +kernel
theorem dX7_pathsBehind_13 : decode cX7_pathsBehind 13 = .ok (.invokevirtual 206, 3) := by decide +kernel
theorem dX7_pathsBehind_16 : decode cX7_pathsBehind 16 = .ok (.aload_n 0, 1) := by decide +kernel
theorem dX7_pathsBehind_17 : decode cX7_pathsBehind 17 = .ok (.aload_n 0, 1) := by decide +kernel
theorem dX7_pathsBehind_18 : decode cX7_pathsBehind 18 = .ok (.invokevirtual 209, 3) := by decide +kernel
theorem dX7_pathsBehind_21 : decode cX7_pathsBehind 21 = .ok (.invokevirtual 253, 3) := by decide +kernel
theorem dX7_pathsBehind_24 : decode cX7_pathsBehind 24 = .ok (.ireturn, 1) := by decide +kernel
set_option maxRecDepth 20000 in
theorem ggX7_best_X7_pathsBehind : GoodIn wsX7_best wsX7_pathsBehind := goodIn_r _ [10, 1, 11, 12, 13, 9, 14, 15, 16, 17, 18, 19, 20, 21, 22, 2, 3, 4, 5, 23, 24, 25, 26, 27, 28, 29, 30, 31, 32, 33, 34, 35, 36, 37, 38, 39, 40, 41, 42, 43, 44, 45, 46, 47, 48, 49, 50, 51, 52, 53, 54, 55, 56, 57, 58, 59, 60, 61, 62, 63, 64, 65, 66, 67, 68, 69, 70, 71, 72, 73, 74, 75, 76, 77, 78, 79, 80, 81, 82, 83, 84, 85, 86, 87, 88, 89, 90, 91, 92, 93, 94, 95, 96, 97, 98, 99, 100, 101, 102, 103, 104, 105, 106, 107, 108, 109, 110, 111, 112, 113, 114] (by decide +kernel) (by decide +kernel)
set_option maxRecDepth 20000 in
theorem gX7_best_X7_pathsBehind : GoodIn wsX7_best (wsV RX7 259 RX7 yX7_pathsBehind wsX7_pathsBehind) := goodIn_app (goodIn_of _ (by decide +kernel)) ggX7_best_X7_pathsBehind
theorem dX7_best_0 : decode cX7_best 0 = .ok (.aload_n 0, 1) := by decide +kernel
theorem dX7_best_1 : decode cX7_best 1 = .ok (.getfield 9, 3) := by decide +kernel
theorem dX7_best_4 : decode cX7_best 4 = .ok (.iload_n 1, 1) := by decide +kernel
theorem dX7_best_5 : decode cX7_best 5 = .ok (.iaload, 1) := by decide +kernel
theorem dX7_best_6 : decode cX7_best 6 = .ok (.istore 4, 2) := by decide +kernel
theorem dX7_best_8 : decode cX7_best 8 = .ok (.iconst 0, 1) := by decide +kernel
theorem dX7_best_9 : decode cX7_best 9 = .ok (.istore 5, 2) := by decide +kernel
theorem dX7_best_11 : decode cX7_best 11 = .ok (.iconst (-1), 1) := by decide +kernel
theorem dX7_best_12 : decode cX7_best 12 = .ok (.istore 6, 2) := by decide +kernel
theorem dX7_best_14 : decode cX7_best 14 = .ok (.iconst 0, 1) := by decide +kernel
theorem dX7_best_15 : decode cX7_best 15 = .ok (.istore 7, 2) := by decide +kernel
theorem dX7_best_17 : decode cX7_best 17 = .ok (.iload 7, 2) := by decide +kernel
theorem dX7_best_19 : decode cX7_best 19 = .ok (.iload_n 2, 1) := by decide +kernel
theorem dX7_best_20 : decode cX7_best 20 = .ok (.if_icmp .ge 49, 3) := by decide +kernel
theorem dX7_best_23 : decode cX7_best 23 = .ok (.aload_n 0, 1) := by decide +kernel
theorem dX7_best_24 : decode cX7_best 24 = .ok (.getfield 9, 3) := by decide +kernel
theorem dX7_best_27 : decode cX7_best 27 = .ok (.iload_n 1, 1) := by decide +kernel
theorem dX7_best_28 : decode cX7_best 28 = .ok (.iload 7, 2) := by decide +kernel
theorem dX7_best_30 : decode cX7_best 30 = .ok (.iastore, 1) := by decide +kernel
theorem dX7_best_31 : decode cX7_best 31 = .ok (.aload_n 0, 1) := by decide +kernel
theorem dX7_best_32 : decode cX7_best 32 = .ok (.iload_n 3, 1) := by decide +kernel
theorem dX7_best_33 : decode cX7_best 33 = .ok (.invokevirtual 259, 3) := by decide +kernel
theorem dX7_best_36 : decode cX7_best 36 = .ok (.istore 8, 2) := by decide +kernel
theorem dX7_best_38 : decode cX7_best 38 = .ok (.iload 8, 2) := by decide +kernel
theorem dX7_best_40 : decode cX7_best 40 = .ok (.iload 6, 2) := by decide +kernel
theorem dX7_best_42 : decode cX7_best 42 = .ok (.if_icmp .le 8, 3) := by decide +kernel
theorem dX7_best_45 : decode cX7_best 45 = .ok (.iload 7, 2) := by decide +kernel
theorem dX7_best_47 : decode cX7_best 47 = .ok (.goto 5, 3) := by decide +kernel
theorem dX7_best_50 : decode cX7_best 50 = .ok (.iload 5, 2) := by decide +kernel
theorem dX7_best_52 : decode cX7_best 52 = .ok (.istore 5, 2) := by decide +kernel
theorem dX7_best_54 : decode cX7_best 54 = .ok (.iload 6, 2) := by decide +kernel
theorem dX7_best_56 : decode cX7_best 56 = .ok (.iload 8, 2) := by decide +kernel
theorem dX7_best_58 : decode cX7_best 58 = .ok (.invokestatic 192, 3) := by decide +kernel
theorem dX7_best_61 : decode cX7_best 61 = .ok (.istore 6, 2) := by decide +kernel
theorem dX7_best_63 : decode cX7_best 63 = .ok (.iinc 7 1, 3) := by decide +kernel
theorem dX7_best_66 : decode cX7_best 66 = .ok (.goto (-49), 3) := by decide +kernel
theorem dX7_best_69 : decode cX7_best 69 = .ok (.aload_n 0, 1) := by decide +kernel
theorem dX7_best_70 : decode cX7_best 70 = .ok (.getfield 9, 3) := by decide +kernel
theorem dX7_best_73 : decode cX7_best 73 = .ok (.iload_n 1, 1) := by decide +kernel
theorem dX7_best_74 : decode cX7_best 74 = .ok (.iload 4, 2) := by decide +kernel
theorem dX7_best_76 : decode cX7_best 76 = .ok (.iastore, 1) := by decide +kernel
theorem dX7_best_77 : decode cX7_best 77 = .ok (.iload 5, 2) := by decide +kernel
theorem dX7_best_79 : decode cX7_best 79 = .ok (.ireturn, 1) := by decide +kernel
set_option maxRecDepth 20000 in
theorem ggX7_kindFor_X7_isSeed : GoodIn wsX7_kindFor wsX7_isSeed := goodIn_r _ [6, 7, 8, 9, 5, 10, 105, 106, 107, 108, 109, 110, 111, 112, 113, 114, 115, 116, 117, 118, 119, 120, 121, 122, 123, 124, 125, 126, 127, 128, 129, 130, 131] (by decide +kernel) (by decide +kernel)
set_option maxRecDepth 20000 in
theorem gX7_kindFor_X7_isSeed : GoodIn wsX7_kindFor (wsV RX7 182 RX7 yX7_isSeed wsX7_isSeed) := goodIn_app (goodIn_of _ (by decide +kernel)) ggX7_kindFor_X7_isSeed
set_option maxRecDepth 20000 in
theorem ggX7_kindFor_X7_within : GoodIn wsX7_kindFor wsX7_within := goodIn_r _ [10] (by decide +kernel) (by decide +kernel)
set_option maxRecDepth 20000 in
theorem gX7_kindFor_X7_within : GoodIn wsX7_kindFor (va_wsS RX7 105 yX7_within wsX7_within) := goodIn_app (goodIn_of _ (by decide +kernel)) ggX7_kindFor_X7_within
set_option maxRecDepth 20000 in
theorem ggX7_kindFor_X7_at : GoodIn wsX7_kindFor wsX7_at := goodIn_r _ [13] (by decide +kernel) (by decide +kernel)
set_option maxRecDepth 20000 in
theorem gX7_kindFor_X7_at : GoodIn wsX7_kindFor (va_wsS RX7 109 yX7_at wsX7_at) := goodIn_app (goodIn_of _ (by decide +kernel)) ggX7_kindFor_X7_at
set_option maxRecDepth 20000 in
theorem ggX7_kindFor_X7_best : GoodIn wsX7_kindFor wsX7_best := goodIn_r _ [17, 7, 18, 19, 20, 21, 22, 23, 24, 5, 25, 26, 27, 28, 29, 30, 31, 32, 33, 34, 35, 36, 37, 38, 39, 40, 41, 42, 43, 44, 45, 46, 11, 12, 13, 47, 48, 49, 50, 51, 52, 53, 54, 55, 56, 57, 58, 59, 60, 61, 62, 63, 64, 65, 66, 67, 68, 69, 70, 71, 72, 73, 74, 75, 76, 77, 78, 79, 80, 81, 82, 83, 84, 85, 86, 87, 88, 89, 90, 91, 92, 93, 94, 95, 96, 97, 98, 99, 105, 106, 107, 108, 109, 110, 111, 112, 113, 114, 115, 116, 117, 118, 119, 120, 121, 122, 123, 124, 125, 126, 127, 128, 129, 130, 131] (by decide +kernel) (by decide +kernel)
set_option maxRecDepth 20000 in
theorem gX7_kindFor_X7_best : GoodIn wsX7_kindFor (wsV RX7 262 RX7 yX7_best wsX7_best) := goodIn_app (goodIn_of _ (by decide +kernel)) ggX7_kindFor_X7_best
set_option maxRecDepth 20000 in
theorem ggX7_kindFor_X7_finding : GoodIn wsX7_kindFor wsX7_finding := goodIn_r _ [103, 104, 1, 105, 106, 107, 108, 109, 110, 111, 112, 113, 114, 115, 116, 117, 118, 119, 120, 121, 122, 123, 124, 125, 126, 127, 128, 129, 130, 131] (by decide +kernel) (by decide +kernel)
set_option maxRecDepth 20000 in
theorem gX7_kindFor_X7_finding : GoodIn wsX7_kindFor (wsV RX7 101 RX7 yX7_finding wsX7_finding) := goodIn_app (goodIn_of _ (by decide +kernel)) ggX7_kindFor_X7_finding
theorem dX7_kindFor_0 : decode cX7_kindFor 0 = .ok (.aload_n 0, 1) := by decide +kernel
theorem dX7_kindFor_1 : decode cX7_kindFor 1 = .ok (.iload_n 1, 1) := by decide +kernel
theorem dX7_kindFor_2 : decode cX7_kindFor 2 = .ok (.invokevirtual 182, 3) := by decide +kernel
theorem dX7_kindFor_5 : decode cX7_kindFor 5 = .ok (.ifCond .eq 28, 3) := by decide +kernel
theorem dX7_kindFor_8 : decode cX7_kindFor 8 = .ok (.iload_n 2, 1) := by decide +kernel
theorem dX7_kindFor_9 : decode cX7_kindFor 9 = .ok (.iconst 0, 1) := by decide +kernel
theorem dX7_kindFor_10 : decode cX7_kindFor 10 = .ok (.bipush 60, 2) := by decide +kernel
theorem dX7_kindFor_12 : decode cX7_kindFor 12 = .ok (.invokestatic 105, 3) := by decide +kernel
theorem dX7_kindFor_15 : decode cX7_kindFor 15 = .ok (.ifCond .eq 18, 3) := by decide +kernel
theorem dX7_kindFor_18 : decode cX7_kindFor 18 = .ok (.aload_n 0, 1) := by decide +kernel
theorem dX7_kindFor_19 : decode cX7_kindFor 19 = .ok (.iload_n 1, 1) := by decide +kernel
theorem dX7_kindFor_20 : decode cX7_kindFor 20 = .ok (.iconst 0, 1) := by decide +kernel
theorem dX7_kindFor_21 : decode cX7_kindFor 21 = .ok (.invokestatic 109, 3) := by decide +kernel
theorem dX7_kindFor_24 : decode cX7_kindFor 24 = .ok (.bipush 7, 2) := by decide +kernel
theorem dX7_kindFor_26 : decode cX7_kindFor 26 = .ok (.iload_n 2, 1) := by decide +kernel
theorem dX7_kindFor_27 : decode cX7_kindFor 27 = .ok (.invokevirtual 262, 3) := by decide +kernel
theorem dX7_kindFor_30 : decode cX7_kindFor 30 = .ok (.goto 9, 3) := by decide +kernel
theorem dX7_kindFor_33 : decode cX7_kindFor 33 = .ok (.aload_n 0, 1) := by decide +kernel
theorem dX7_kindFor_34 : decode cX7_kindFor 34 = .ok (.ldc 95, 2) := by decide +kernel
theorem dX7_kindFor_36 : decode cX7_kindFor 36 = .ok (.invokevirtual 101, 3) := by decide +kernel
theorem dX7_kindFor_39 : decode cX7_kindFor 39 = .ok (.ireturn, 1) := by decide +kernel
set_option maxRecDepth 20000 in
theorem ggX7_headingFor_X7_isSeed : GoodIn wsX7_headingFor wsX7_isSeed := goodIn_r _ [6, 7, 8, 9, 5, 10, 105, 106, 107, 108, 109, 110, 111, 112, 113, 114, 115, 116, 117, 118, 119, 120, 121, 122, 123, 124, 125, 126, 127, 128, 129, 130, 131] (by decide +kernel) (by decide +kernel)
set_option maxRecDepth 20000 in
theorem gX7_headingFor_X7_isSeed : GoodIn wsX7_headingFor (wsV RX7 182 RX7 yX7_isSeed wsX7_isSeed) := goodIn_app (goodIn_of _ (by decide +kernel)) ggX7_headingFor_X7_isSeed
set_option maxRecDepth 20000 in
theorem ggX7_headingFor_X7_within : GoodIn wsX7_headingFor wsX7_within := goodIn_r _ [10] (by decide +kernel) (by decide +kernel)
set_option maxRecDepth 20000 in
theorem gX7_headingFor_X7_within : GoodIn wsX7_headingFor (va_wsS RX7 105 yX7_within wsX7_within) := goodIn_app (goodIn_of _ (by decide +kernel)) ggX7_headingFor_X7_within
set_option maxRecDepth 20000 in
theorem ggX7_headingFor_X7_at : GoodIn wsX7_headingFor wsX7_at := goodIn_r _ [13] (by decide +kernel) (by decide +kernel)
set_option maxRecDepth 20000 in
theorem gX7_headingFor_X7_at : GoodIn wsX7_headingFor (va_wsS RX7 109 yX7_at wsX7_at) := goodIn_app (goodIn_of _ (by decide +kernel)) ggX7_headingFor_X7_at
set_option maxRecDepth 20000 in
theorem ggX7_headingFor_X7_best : GoodIn wsX7_headingFor wsX7_best := goodIn_r _ [17, 7, 18, 19, 20, 21, 22, 23, 24, 5, 25, 26, 27, 28, 29, 30, 31, 32, 33, 34, 35, 36, 37, 38, 39, 40, 41, 42, 43, 44, 45, 46, 11, 12, 13, 47, 48, 49, 50, 51, 52, 53, 54, 55, 56, 57, 58, 59, 60, 61, 62, 63, 64, 65, 66, 67, 68, 69, 70, 71, 72, 73, 74, 75, 76, 77, 78, 79, 80, 81, 82, 83, 84, 85, 86, 87, 88, 89, 90, 91, 92, 93, 94, 95, 96, 97, 98, 99, 105, 106, 107, 108, 109, 110, 111, 112, 113, 114, 115, 116, 117, 118, 119, 120, 121, 122, 123, 124, 125, 126, 127, 128, 129, 130, 131] (by decide +kernel) (by decide +kernel)
set_option maxRecDepth 20000 in
theorem gX7_headingFor_X7_best : GoodIn wsX7_headingFor (wsV RX7 262 RX7 yX7_best wsX7_best) := goodIn_app (goodIn_of _ (by decide +kernel)) ggX7_headingFor_X7_best
set_option maxRecDepth 20000 in
theorem ggX7_headingFor_X7_finding : GoodIn wsX7_headingFor wsX7_finding := goodIn_r _ [103, 104, 1, 105, 106, 107, 108, 109, 110, 111, 112, 113, 114, 115, 116, 117, 118, 119, 120, 121, 122, 123, 124, 125, 126, 127, 128, 129, 130, 131] (by decide +kernel) (by decide +kernel)
set_option maxRecDepth 20000 in
theorem gX7_headingFor_X7_finding : GoodIn wsX7_headingFor (wsV RX7 101 RX7 yX7_finding wsX7_finding) := goodIn_app (goodIn_of _ (by decide +kernel)) ggX7_headingFor_X7_finding
theorem dX7_headingFor_0 : decode cX7_headingFor 0 = .ok (.aload_n 0, 1) := by decide +kernel
theorem dX7_headingFor_1 : decode cX7_headingFor 1 = .ok (.iload_n 1, 1) := by decide +kernel
theorem dX7_headingFor_2 : decode cX7_headingFor 2 = .ok (.invokevirtual 182, 3) := by decide +kernel
theorem dX7_headingFor_5 : decode cX7_headingFor 5 = .ok (.ifCond .eq 27, 3) := by decide +kernel
theorem dX7_headingFor_8 : decode cX7_headingFor 8 = .ok (.iload_n 2, 1) := by decide +kernel
theorem dX7_headingFor_9 : decode cX7_headingFor 9 = .ok (.iconst 0, 1) := by decide +kernel
theorem dX7_headingFor_10 : decode cX7_headingFor 10 = .ok (.bipush 60, 2) := by decide +kernel
theorem dX7_headingFor_12 : decode cX7_headingFor 12 = .ok (.invokestatic 105, 3) := by decide +kernel
theorem dX7_headingFor_15 : decode cX7_headingFor 15 = .ok (.ifCond .eq 17, 3) := by decide +kernel
theorem dX7_headingFor_18 : decode cX7_headingFor 18 = .ok (.aload_n 0, 1) := by decide +kernel
theorem dX7_headingFor_19 : decode cX7_headingFor 19 = .ok (.iload_n 1, 1) := by decide +kernel
theorem dX7_headingFor_20 : decode cX7_headingFor 20 = .ok (.iconst 2, 1) := by decide +kernel
theorem dX7_headingFor_21 : decode cX7_headingFor 21 = .ok (.invokestatic 109, 3) := by decide +kernel
theorem dX7_headingFor_24 : decode cX7_headingFor 24 = .ok (.iconst 4, 1) := by decide +kernel
theorem dX7_headingFor_25 : decode cX7_headingFor 25 = .ok (.iload_n 2, 1) := by decide +kernel
theorem dX7_headingFor_26 : decode cX7_headingFor 26 = .ok (.invokevirtual 262, 3) := by decide +kernel
theorem dX7_headingFor_29 : decode cX7_headingFor 29 = .ok (.goto 9, 3) := by decide +kernel
theorem dX7_headingFor_32 : decode cX7_headingFor 32 = .ok (.aload_n 0, 1) := by decide +kernel
theorem dX7_headingFor_33 : decode cX7_headingFor 33 = .ok (.ldc 95, 2) := by decide +kernel
theorem dX7_headingFor_35 : decode cX7_headingFor 35 = .ok (.invokevirtual 101, 3) := by decide +kernel
theorem dX7_headingFor_38 : decode cX7_headingFor 38 = .ok (.ireturn, 1) := by decide +kernel
set_option maxRecDepth 20000 in
theorem ggX7_joinsFrom_X7_copyRow : GoodIn wsX7_joinsFrom wsX7_copyRow := goodIn_r _ [6] (by decide +kernel) (by decide +kernel)
set_option maxRecDepth 20000 in
theorem gX7_joinsFrom_X7_copyRow : GoodIn wsX7_joinsFrom (va_wsS RX7 96 yX7_copyRow wsX7_copyRow) := goodIn_app (goodIn_of _ (by decide +kernel)) ggX7_joinsFrom_X7_copyRow
set_option maxRecDepth 20000 in
theorem ggX7_joinsFrom_X7_comes : GoodIn wsX7_joinsFrom wsX7_comes := goodIn_r _ [10, 1, 11, 12, 5, 13, 90, 91, 92, 93, 94, 95, 96, 97, 98, 99, 100, 101, 102, 103, 104, 105, 106, 107, 108, 109, 110, 111, 112, 113, 114, 115, 116] (by decide +kernel) (by decide +kernel)
set_option maxRecDepth 20000 in
theorem gX7_joinsFrom_X7_comes : GoodIn wsX7_joinsFrom (wsV RX7 152 RX7 yX7_comes wsX7_comes) := goodIn_app (goodIn_of _ (by decide +kernel)) ggX7_joinsFrom_X7_comes
set_option maxRecDepth 20000 in
theorem ggX7_joinsFrom_X7_seasons : GoodIn wsX7_joinsFrom wsX7_seasons := goodIn_r _ [17, 18, 19, 20, 5, 21, 1, 22, 23, 24, 25, 26, 27, 28, 29, 30, 31, 32, 33, 34, 11, 12, 13, 35, 36, 37, 38, 39, 40, 41, 42, 43, 44, 45, 46, 47, 48, 49, 50, 51, 52, 53, 54, 55, 56, 57, 58, 59, 60, 61, 62, 63, 64, 65, 66, 67, 68, 69, 70, 71, 72, 73, 74, 75, 90, 91, 92, 93, 94, 95, 96, 97, 98, 99, 100, 101, 102, 103, 104, 105, 106, 107, 108, 109, 110, 111, 112, 113, 114, 115, 116] (by decide +kernel) (by decide +kernel)
set_option maxRecDepth 20000 in
theorem gX7_joinsFrom_X7_seasons : GoodIn wsX7_joinsFrom (wsV RX7 206 RX7 yX7_seasons wsX7_seasons) := goodIn_app (goodIn_of _ (by decide +kernel)) ggX7_joinsFrom_X7_seasons
set_option maxRecDepth 20000 in
theorem ggX7_joinsFrom_X7_areJoined : GoodIn wsX7_joinsFrom wsX7_areJoined := goodIn_r _ [79, 80, 81, 82, 83, 5, 84, 85, 86, 87, 88, 89, 1, 61, 62, 63, 90, 91, 92, 93, 94, 95, 96, 97, 98, 99, 100, 101, 102, 103, 104, 105, 106, 107, 108, 109, 110, 111, 112, 113, 114, 115, 116] (by decide +kernel) (by decide +kernel)
set_option maxRecDepth 20000 in
theorem gX7_joinsFrom_X7_areJoined : GoodIn wsX7_joinsFrom (wsV RX7 240 RX7 yX7_areJoined wsX7_areJoined) := goodIn_app (goodIn_of _ (by decide +kernel)) ggX7_joinsFrom_X7_areJoined
theorem dX7_joinsFrom_0 : decode cX7_joinsFrom 0 = .ok (.aload_n 0, 1) := by decide +kernel
theorem dX7_joinsFrom_1 : decode cX7_joinsFrom 1 = .ok (.getfield 9, 3) := by decide +kernel
theorem dX7_joinsFrom_4 : decode cX7_joinsFrom 4 = .ok (.aload_n 0, 1) := by decide +kernel
theorem dX7_joinsFrom_5 : decode cX7_joinsFrom 5 = .ok (.getfield 16, 3) := by decide +kernel
theorem dX7_joinsFrom_8 : decode cX7_joinsFrom 8 = .ok (.invokestatic 96, 3) := by decide +kernel
theorem dX7_joinsFrom_11 : decode cX7_joinsFrom 11 = .ok (.aload_n 0, 1) := by decide +kernel
theorem dX7_joinsFrom_12 : decode cX7_joinsFrom 12 = .ok (.iload_n 1, 1) := by decide +kernel
theorem dX7_joinsFrom_13 : decode cX7_joinsFrom 13 = .ok (.iload_n 2, 1) := by decide +kernel
theorem dX7_joinsFrom_14 : decode cX7_joinsFrom 14 = .ok (.iconst 0, 1) := by decide +kernel
theorem dX7_joinsFrom_15 : decode cX7_joinsFrom 15 = .ok (.iconst 0, 1) := by decide +kernel
theorem dX7_joinsFrom_16 : decode cX7_joinsFrom 16 = .ok (.invokevirtual 152, 3) := by decide +kernel
theorem dX7_joinsFrom_19 : decode cX7_joinsFrom 19 = .ok (.istore 6, 2) := by decide +kernel
theorem dX7_joinsFrom_21 : decode cX7_joinsFrom 21 = .ok (.aload_n 0, 1) := by decide +kernel
theorem dX7_joinsFrom_22 : decode cX7_joinsFrom 22 = .ok (.iload 5, 2) := by decide +kernel
theorem dX7_joinsFrom_24 : decode cX7_joinsFrom 24 = .ok (.invokevirtual 206, 3) := by decide +kernel
theorem dX7_joinsFrom_27 : decode cX7_joinsFrom 27 = .ok (.iload 6, 2) := by decide +kernel
theorem dX7_joinsFrom_29 : decode cX7_joinsFrom 29 = .ok (.ifCond .lt 17, 3) := by decide +kernel
theorem dX7_joinsFrom_32 : decode cX7_joinsFrom 32 = .ok (.aload_n 0, 1) := by decide +kernel
theorem dX7_joinsFrom_33 : decode cX7_joinsFrom 33 = .ok (.iload_n 3, 1) := by decide +kernel
theorem dX7_joinsFrom_34 : decode cX7_joinsFrom 34 = .ok (.iload 4, 2) := by decide +kernel
theorem dX7_joinsFrom_36 : decode cX7_joinsFrom 36 = .ok (.invokevirtual 240, 3) := by decide +kernel
theorem dX7_joinsFrom_39 : decode cX7_joinsFrom 39 = .ok (.ifCond .eq 7, 3) := by decide +kernel
theorem dX7_joinsFrom_42 : decode cX7_joinsFrom 42 = .ok (.iconst 1, 1) := by decide +kernel
theorem dX7_joinsFrom_43 : decode cX7_joinsFrom 43 = .ok (.goto 4, 3) := by decide +kernel
theorem dX7_joinsFrom_46 : decode cX7_joinsFrom 46 = .ok (.iconst 0, 1) := by decide +kernel
theorem dX7_joinsFrom_47 : decode cX7_joinsFrom 47 = .ok (.istore 7, 2) := by decide +kernel
theorem dX7_joinsFrom_49 : decode cX7_joinsFrom 49 = .ok (.aload_n 0, 1) := by decide +kernel
theorem dX7_joinsFrom_50 : decode cX7_joinsFrom 50 = .ok (.getfield 16, 3) := by decide +kernel
theorem dX7_joinsFrom_53 : decode cX7_joinsFrom 53 = .ok (.aload_n 0, 1) := by decide +kernel
theorem dX7_joinsFrom_54 : decode cX7_joinsFrom 54 = .ok (.getfield 9, 3) := by decide +kernel
theorem dX7_joinsFrom_57 : decode cX7_joinsFrom 57 = .ok (.invokestatic 96, 3) := by decide +kernel
theorem dX7_joinsFrom_60 : decode cX7_joinsFrom 60 = .ok (.iload 7, 2) := by decide +kernel
theorem dX7_joinsFrom_62 : decode cX7_joinsFrom 62 = .ok (.ireturn, 1) := by decide +kernel
set_option maxRecDepth 20000 in
theorem ggX7_sowFor_X7_isKind : GoodIn wsX7_sowFor wsX7_isKind := goodIn_r _ [8, 9, 10, 7, 11] (by decide +kernel) (by decide +kernel)
set_option maxRecDepth 20000 in
theorem gX7_sowFor_X7_isKind : GoodIn wsX7_sowFor (va_wsS RX7 145 yX7_isKind wsX7_isKind) := goodIn_app (goodIn_of _ (by decide +kernel)) ggX7_sowFor_X7_isKind
set_option maxRecDepth 20000 in
theorem ggX7_sowFor_X7_areCells : GoodIn wsX7_sowFor wsX7_areCells := goodIn_r _ [14, 15, 16, 7, 17, 9, 10, 11] (by decide +kernel) (by decide +kernel)
set_option maxRecDepth 20000 in
theorem gX7_sowFor_X7_areCells : GoodIn wsX7_sowFor (va_wsS RX7 225 yX7_areCells wsX7_areCells) := goodIn_app (goodIn_of _ (by decide +kernel)) ggX7_sowFor_X7_areCells
set_option maxRecDepth 20000 in
theorem ggX7_sowFor_X7_within : GoodIn wsX7_sowFor wsX7_within := goodIn_r _ [11] (by decide +kernel) (by decide +kernel)
set_option maxRecDepth 20000 in
theorem gX7_sowFor_X7_within : GoodIn wsX7_sowFor (va_wsS RX7 105 yX7_within wsX7_within) := goodIn_app (goodIn_of _ (by decide +kernel)) ggX7_sowFor_X7_within
set_option maxRecDepth 20000 in
theorem ggX7_sowFor_X7_finding : GoodIn wsX7_sowFor wsX7_finding := goodIn_r _ [21, 22, 1, 114, 115, 116, 117, 118, 119, 120, 121, 122, 123, 124, 125, 126, 127, 128, 129, 130, 131, 132, 133, 134, 135, 136, 137, 138, 139, 140] (by decide +kernel) (by decide +kernel)
set_option maxRecDepth 20000 in
theorem gX7_sowFor_X7_finding : GoodIn wsX7_sowFor (wsV RX7 101 RX7 yX7_finding wsX7_finding) := goodIn_app (goodIn_of _ (by decide +kernel)) ggX7_sowFor_X7_finding
set_option maxRecDepth 20000 in
theorem ggX7_sowFor_X7_isGrass : GoodIn wsX7_sowFor wsX7_isGrass := goodIn_r _ [26, 2, 114, 115, 116, 117, 118, 119, 120, 121, 122, 123, 124, 125, 126, 127, 128, 129, 130, 131, 132, 133, 134, 135, 136, 137, 138, 139, 140] (by decide +kernel) (by decide +kernel)
set_option maxRecDepth 20000 in
theorem gX7_sowFor_X7_isGrass : GoodIn wsX7_sowFor (wsV RX7 141 RX7 yX7_isGrass wsX7_isGrass) := goodIn_app (goodIn_of _ (by decide +kernel)) ggX7_sowFor_X7_isGrass
set_option maxRecDepth 20000 in
theorem ggX7_sowFor_X7_joinsFrom : GoodIn wsX7_sowFor wsX7_joinsFrom := goodIn_r _ [30, 2, 31, 32, 33, 7, 34, 35, 36, 37, 38, 39, 40, 41, 42, 43, 44, 45, 46, 47, 48, 49, 50, 51, 52, 53, 54, 55, 56, 57, 58, 59, 60, 61, 62, 63, 64, 65, 66, 67, 68, 69, 70, 71, 72, 73, 74, 75, 76, 77, 78, 79, 80, 81, 82, 83, 84, 85, 86, 87, 88, 89, 90, 91, 92, 93, 94, 95, 96, 97, 98, 99, 23, 24, 25, 26, 100, 101, 102, 103, 104, 105, 106, 107, 108, 109, 110, 111, 112, 113, 114, 115, 116, 117, 118, 119, 120, 121, 122, 123, 124, 125, 126, 127, 128, 129, 130, 131, 132, 133, 134, 135, 136, 137, 138, 139, 140] (by decide +kernel) (by decide +kernel)
set_option maxRecDepth 20000 in
theorem gX7_sowFor_X7_joinsFrom : GoodIn wsX7_sowFor (wsV RX7 266 RX7 yX7_joinsFrom wsX7_joinsFrom) := goodIn_app (goodIn_of _ (by decide +kernel)) ggX7_sowFor_X7_joinsFrom
theorem dX7_sowFor_0 : decode cX7_sowFor 0 = .ok (.iload_n 1, 1) := by decide +kernel
theorem dX7_sowFor_1 : decode cX7_sowFor 1 = .ok (.invokestatic 145, 3) := by decide +kernel
theorem dX7_sowFor_4 : decode cX7_sowFor 4 = .ok (.ifCond .eq 22, 3) := by decide +kernel
theorem dX7_sowFor_7 : decode cX7_sowFor 7 = .ok (.iload_n 2, 1) := by decide +kernel
theorem dX7_sowFor_8 : decode cX7_sowFor 8 = .ok (.iload_n 3, 1) := by decide +kernel
theorem dX7_sowFor_9 : decode cX7_sowFor 9 = .ok (.invokestatic 225, 3) := by decide +kernel
theorem dX7_sowFor_12 : decode cX7_sowFor 12 = .ok (.ifCond .eq 14, 3) := by decide +kernel
theorem dX7_sowFor_15 : decode cX7_sowFor 15 = .ok (.iload 4, 2) := by decide +kernel
theorem dX7_sowFor_17 : decode cX7_sowFor 17 = .ok (.iconst 0, 1) := by decide +kernel
theorem dX7_sowFor_18 : decode cX7_sowFor 18 = .ok (.bipush 30, 2) := by decide +kernel
theorem dX7_sowFor_20 : decode cX7_sowFor 20 = .ok (.invokestatic 105, 3) := by decide +kernel
theorem dX7_sowFor_23 : decode cX7_sowFor 23 = .ok (.ifCond .ne 10, 3) := by decide +kernel
theorem dX7_sowFor_26 : decode cX7_sowFor 26 = .ok (.aload_n 0, 1) := by decide +kernel
theorem dX7_sowFor_27 : decode cX7_sowFor 27 = .ok (.ldc 95, 2) := by decide +kernel
theorem dX7_sowFor_29 : decode cX7_sowFor 29 = .ok (.invokevirtual 101, 3) := by decide +kernel
theorem dX7_sowFor_32 : decode cX7_sowFor 32 = .ok (.ireturn, 1) := by decide +kernel
theorem dX7_sowFor_33 : decode cX7_sowFor 33 = .ok (.aload_n 0, 1) := by decide +kernel
theorem dX7_sowFor_34 : decode cX7_sowFor 34 = .ok (.getfield 9, 3) := by decide +kernel
theorem dX7_sowFor_37 : decode cX7_sowFor 37 = .ok (.iconst 1, 1) := by decide +kernel
theorem dX7_sowFor_38 : decode cX7_sowFor 38 = .ok (.iaload, 1) := by decide +kernel
theorem dX7_sowFor_39 : decode cX7_sowFor 39 = .ok (.bipush 8, 2) := by decide +kernel
theorem dX7_sowFor_41 : decode cX7_sowFor 41 = .ok (.if_icmp .ne 10, 3) := by decide +kernel
theorem dX7_sowFor_44 : decode cX7_sowFor 44 = .ok (.aload_n 0, 1) := by decide +kernel
theorem dX7_sowFor_45 : decode cX7_sowFor 45 = .ok (.ldc 151, 2) := by decide +kernel
theorem dX7_sowFor_47 : decode cX7_sowFor 47 = .ok (.invokevirtual 101, 3) := by decide +kernel
theorem dX7_sowFor_50 : decode cX7_sowFor 50 = .ok (.ireturn, 1) := by decide +kernel
theorem dX7_sowFor_51 : decode cX7_sowFor 51 = .ok (.iconst 0, 1) := by decide +kernel
theorem dX7_sowFor_52 : decode cX7_sowFor 52 = .ok (.istore 5, 2) := by decide +kernel
theorem dX7_sowFor_54 : decode cX7_sowFor 54 = .ok (.iload 5, 2) := by decide +kernel
theorem dX7_sowFor_56 : decode cX7_sowFor 56 = .ok (.bipush 36, 2) := by decide +kernel
theorem dX7_sowFor_58 : decode cX7_sowFor 58 = .ok (.if_icmp .ge 32, 3) := by decide +kernel
theorem dX7_sowFor_61 : decode cX7_sowFor 61 = .ok (.aload_n 0, 1) := by decide +kernel
theorem dX7_sowFor_62 : decode cX7_sowFor 62 = .ok (.iload 5, 2) := by decide +kernel
theorem dX7_sowFor_64 : decode cX7_sowFor 64 = .ok (.invokevirtual 141, 3) := by decide +kernel
theorem dX7_sowFor_67 : decode cX7_sowFor 67 = .ok (.ifCond .eq 17, 3) := by decide +kernel
theorem dX7_sowFor_70 : decode cX7_sowFor 70 = .ok (.aload_n 0, 1) := by decide +kernel
theorem dX7_sowFor_71 : decode cX7_sowFor 71 = .ok (.iload_n 1, 1) := by decide +kernel
theorem dX7_sowFor_72 : decode cX7_sowFor 72 = .ok (.iload 5, 2) := by decide +kernel
theorem dX7_sowFor_74 : decode cX7_sowFor 74 = .ok (.iload_n 2, 1) := by decide +kernel
theorem dX7_sowFor_75 : decode cX7_sowFor 75 = .ok (.iload_n 3, 1) := by decide +kernel
theorem dX7_sowFor_76 : decode cX7_sowFor 76 = .ok (.iload 4, 2) := by decide +kernel
theorem dX7_sowFor_78 : decode cX7_sowFor 78 = .ok (.invokevirtual 266, 3) := by decide +kernel
theorem dX7_sowFor_81 : decode cX7_sowFor 81 = .ok (.ifCond .ne 9, 3) := by decide +kernel
theorem dX7_sowFor_84 : decode cX7_sowFor 84 = .ok (.iinc 5 1, 3) := by decide +kernel
theorem dX7_sowFor_87 : decode cX7_sowFor 87 = .ok (.goto (-33), 3) := by decide +kernel
theorem dX7_sowFor_90 : decode cX7_sowFor 90 = .ok (.iload 5, 2) := by decide +kernel
theorem dX7_sowFor_92 : decode cX7_sowFor 92 = .ok (.bipush 36, 2) := by decide +kernel
theorem dX7_sowFor_94 : decode cX7_sowFor 94 = .ok (.if_icmp .ge 8, 3) := by decide +kernel
theorem dX7_sowFor_97 : decode cX7_sowFor 97 = .ok (.iload 5, 2) := by decide +kernel
theorem dX7_sowFor_99 : decode cX7_sowFor 99 = .ok (.goto 9, 3) := by decide +kernel
theorem dX7_sowFor_102 : decode cX7_sowFor 102 = .ok (.aload_n 0, 1) := by decide +kernel
theorem dX7_sowFor_103 : decode cX7_sowFor 103 = .ok (.ldc 100, 2) := by decide +kernel
theorem dX7_sowFor_105 : decode cX7_sowFor 105 = .ok (.invokevirtual 101, 3) := by decide +kernel
theorem dX7_sowFor_108 : decode cX7_sowFor 108 = .ok (.ireturn, 1) := by decide +kernel
set_option maxRecDepth 20000 in
theorem ggX7_without_X7_within : GoodIn wsX7_without wsX7_within := goodIn_r _ [10] (by decide +kernel) (by decide +kernel)
set_option maxRecDepth 20000 in
theorem gX7_without_X7_within : GoodIn wsX7_without (va_wsS RX7 105 yX7_within wsX7_within) := goodIn_app (goodIn_of _ (by decide +kernel)) ggX7_without_X7_within
set_option maxRecDepth 20000 in
theorem ggX7_without_X7_finding : GoodIn wsX7_without wsX7_finding := goodIn_r _ [14, 15, 1, 109, 110, 111, 112, 113, 114, 115, 116, 117, 118, 119, 120, 121, 122, 123, 124, 125, 126, 127, 128, 129, 130, 131, 132, 133, 134, 135] (by decide +kernel) (by decide +kernel)
set_option maxRecDepth 20000 in
theorem gX7_without_X7_finding : GoodIn wsX7_without (wsV RX7 101 RX7 yX7_finding wsX7_finding) := goodIn_app (goodIn_of _ (by decide +kernel)) ggX7_without_X7_finding
set_option maxRecDepth 20000 in
theorem ggX7_without_X7_at : GoodIn wsX7_without wsX7_at := goodIn_r _ [18] (by decide +kernel) (by decide +kernel)
set_option maxRecDepth 20000 in
theorem gX7_without_X7_at : GoodIn wsX7_without (va_wsS RX7 109 yX7_at wsX7_at) := goodIn_app (goodIn_of _ (by decide +kernel)) ggX7_without_X7_at
set_option maxRecDepth 20000 in
theorem ggX7_without_X7_become : GoodIn wsX7_without wsX7_become := goodIn_r _ [22, 2, 109, 110, 111, 112, 113, 114, 115, 116, 117, 118, 119, 120, 121, 122, 123, 124, 125, 126, 127, 128, 129, 130, 131, 132, 133, 134, 135] (by decide +kernel) (by decide +kernel)
set_option maxRecDepth 20000 in
theorem gX7_without_X7_become : GoodIn wsX7_without (wsV RX7 113 RX7 yX7_become wsX7_become) := goodIn_app (goodIn_of _ (by decide +kernel)) ggX7_without_X7_become
set_option maxRecDepth 20000 in
theorem ggX7_without_X7_pathsBehind : GoodIn wsX7_without wsX7_pathsBehind := goodIn_r _ [26, 2, 27, 28, 29, 9, 30, 31, 32, 33, 34, 35, 36, 37, 38, 39, 40, 5, 41, 42, 43, 44, 45, 46, 47, 48, 49, 50, 16, 17, 18, 51, 52, 53, 54, 55, 56, 57, 58, 59, 60, 61, 62, 63, 64, 65, 66, 67, 68, 69, 70, 71, 72, 73, 74, 75, 76, 77, 78, 79, 80, 81, 82, 83, 84, 85, 86, 87, 88, 89, 90, 91, 92, 93, 94, 95, 96, 97, 98, 99, 100, 101, 102, 103, 109, 110, 111, 112, 113, 114, 115, 116, 117, 118, 119, 120, 121, 122, 123, 124, 125, 126, 127, 128, 129, 130, 131, 132, 133, 134, 135] (by decide +kernel) (by decide +kernel)
set_option maxRecDepth 20000 in
theorem gX7_without_X7_pathsBehind : GoodIn wsX7_without (wsV RX7 259 RX7 yX7_pathsBehind wsX7_pathsBehind) := goodIn_app (goodIn_of _ (by decide +kernel)) ggX7_without_X7_pathsBehind
set_option maxRecDepth 20000 in
theorem ggX7_without_X7_orNone : GoodIn wsX7_without wsX7_orNone := goodIn_r _ [107, 108, 11, 12, 13, 9, 14, 15, 1, 109, 110, 111, 112, 113, 114, 115, 116, 117, 118, 119, 120, 121, 122, 123, 124, 125, 126, 127, 128, 129, 130, 131, 132, 133, 134, 135] (by decide +kernel) (by decide +kernel)
set_option maxRecDepth 20000 in
theorem gX7_without_X7_orNone : GoodIn wsX7_without (wsV RX7 228 RX7 yX7_orNone wsX7_orNone) := goodIn_app (goodIn_of _ (by decide +kernel)) ggX7_without_X7_orNone
theorem dX7_without_0 : decode cX7_without 0 = .ok (.iload_n 1, 1) := by decide +kernel
theorem dX7_without_1 : decode cX7_without 1 = .ok (.iconst 0, 1) := by decide +kernel
theorem dX7_without_2 : decode cX7_without 2 = .ok (.bipush 60, 2) := by decide +kernel
theorem dX7_without_4 : decode cX7_without 4 = .ok (.invokestatic 105, 3) := by decide +kernel
theorem dX7_without_7 : decode cX7_without 7 = .ok (.ifCond .ne 10, 3) := by decide +kernel
theorem dX7_without_10 : decode cX7_without 10 = .ok (.aload_n 0, 1) := by decide +kernel
theorem dX7_without_11 : decode cX7_without 11 = .ok (.ldc 95, 2) := by decide +kernel
theorem dX7_without_13 : decode cX7_without 13 = .ok (.invokevirtual 101, 3) := by decide +kernel
theorem dX7_without_16 : decode cX7_without 16 = .ok (.ireturn, 1) := by decide +kernel
theorem dX7_without_17 : decode cX7_without 17 = .ok (.iconst (-1), 1) := by decide +kernel
theorem dX7_without_18 : decode cX7_without 18 = .ok (.istore_n 2, 1) := by decide +kernel
theorem dX7_without_19 : decode cX7_without 19 = .ok (.bipush 37, 2) := by decide +kernel
theorem dX7_without_21 : decode cX7_without 21 = .ok (.istore_n 3, 1) := by decide +kernel
theorem dX7_without_22 : decode cX7_without 22 = .ok (.iconst 0, 1) := by decide +kernel
theorem dX7_without_23 : decode cX7_without 23 = .ok (.istore 4, 2) := by decide +kernel
theorem dX7_without_25 : decode cX7_without 25 = .ok (.iload 4, 2) := by decide +kernel
theorem dX7_without_27 : decode cX7_without 27 = .ok (.aload_n 0, 1) := by decide +kernel
theorem dX7_without_28 : decode cX7_without 28 = .ok (.getfield 9, 3) := by decide +kernel
theorem dX7_without_31 : decode cX7_without 31 = .ok (.iconst 1, 1) := by decide +kernel
theorem dX7_without_32 : decode cX7_without 32 = .ok (.iaload, 1) := by decide +kernel
theorem dX7_without_33 : decode cX7_without 33 = .ok (.if_icmp .ge 64, 3) := by decide +kernel
theorem dX7_without_36 : decode cX7_without 36 = .ok (.aload_n 0, 1) := by decide +kernel
theorem dX7_without_37 : decode cX7_without 37 = .ok (.iload 4, 2) := by decide +kernel
theorem dX7_without_39 : decode cX7_without 39 = .ok (.iconst 3, 1) := by decide +kernel
theorem dX7_without_40 : decode cX7_without 40 = .ok (.invokestatic 109, 3) := by decide +kernel
theorem dX7_without_43 : decode cX7_without 43 = .ok (.sipush 999, 3) := by decide +kernel
theorem dX7_without_46 : decode cX7_without 46 = .ok (.invokevirtual 113, 3) := by decide +kernel
theorem dX7_without_49 : decode cX7_without 49 = .ok (.istore 5, 2) := by decide +kernel
theorem dX7_without_51 : decode cX7_without 51 = .ok (.aload_n 0, 1) := by decide +kernel
theorem dX7_without_52 : decode cX7_without 52 = .ok (.iload_n 1, 1) := by decide +kernel
theorem dX7_without_53 : decode cX7_without 53 = .ok (.invokevirtual 259, 3) := by decide +kernel
theorem dX7_without_56 : decode cX7_without 56 = .ok (.istore 6, 2) := by decide +kernel
theorem dX7_without_58 : decode cX7_without 58 = .ok (.aload_n 0, 1) := by decide +kernel
theorem dX7_without_59 : decode cX7_without 59 = .ok (.getfield 9, 3) := by decide +kernel
theorem dX7_without_62 : decode cX7_without 62 = .ok (.iload 4, 2) := by decide +kernel
theorem dX7_without_64 : decode cX7_without 64 = .ok (.iconst 3, 1) := by decide +kernel
theorem dX7_without_65 : decode cX7_without 65 = .ok (.invokestatic 109, 3) := by decide +kernel
theorem dX7_without_68 : decode cX7_without 68 = .ok (.iload 5, 2) := by decide +kernel
theorem dX7_without_70 : decode cX7_without 70 = .ok (.iastore, 1) := by decide +kernel
theorem dX7_without_71 : decode cX7_without 71 = .ok (.iload 6, 2) := by decide +kernel
theorem dX7_without_73 : decode cX7_without 73 = .ok (.iload_n 3, 1) := by decide +kernel
theorem dX7_without_74 : decode cX7_without 74 = .ok (.if_icmp .ge 8, 3) := by decide +kernel
theorem dX7_without_77 : decode cX7_without 77 = .ok (.iload 4, 2) := by decide +kernel
theorem dX7_without_79 : decode cX7_without 79 = .ok (.goto 4, 3) := by decide +kernel
theorem dX7_without_82 : decode cX7_without 82 = .ok (.iload_n 2, 1) := by decide +kernel
theorem dX7_without_83 : decode cX7_without 83 = .ok (.istore_n 2, 1) := by decide +kernel
theorem dX7_without_84 : decode cX7_without 84 = .ok (.iload_n 3, 1) := by decide +kernel
theorem dX7_without_85 : decode cX7_without 85 = .ok (.iload 6, 2) := by decide +kernel
theorem dX7_without_87 : decode cX7_without 87 = .ok (.invokestatic 270, 3) := by decide +kernel
theorem dX7_without_90 : decode cX7_without 90 = .ok (.istore_n 3, 1) := by decide +kernel
theorem dX7_without_91 : decode cX7_without 91 = .ok (.iinc 4 1, 3) := by decide +kernel
theorem dX7_without_94 : decode cX7_without 94 = .ok (.goto (-69), 3) := by decide +kernel
theorem dX7_without_97 : decode cX7_without 97 = .ok (.aload_n 0, 1) := by decide +kernel
theorem dX7_without_98 : decode cX7_without 98 = .ok (.iload_n 2, 1) := by decide +kernel
theorem dX7_without_99 : decode cX7_without 99 = .ok (.invokevirtual 228, 3) := by decide +kernel
theorem dX7_without_102 : decode cX7_without 102 = .ok (.ireturn, 1) := by decide +kernel
set_option maxRecDepth 20000 in
theorem ggX7_weed_X7_groupsNow : GoodIn wsX7_weed wsX7_groupsNow := goodIn_r _ [10, 11, 12, 13, 14, 15, 9, 16, 17, 18, 19, 20, 1, 21, 22, 23, 24, 25, 26, 27, 28, 40, 41, 42, 43, 44, 45, 46, 47, 48, 49, 50, 51, 52, 53, 54, 55, 56, 57, 58, 59, 60, 61, 62, 63, 64, 65, 66] (by decide +kernel) (by decide +kernel)
set_option maxRecDepth 20000 in
theorem gX7_weed_X7_groupsNow : GoodIn wsX7_weed (wsV RX7 237 RX7 yX7_groupsNow wsX7_groupsNow) := goodIn_app (goodIn_of _ (by decide +kernel)) ggX7_weed_X7_groupsNow
set_option maxRecDepth 20000 in
theorem ggX7_weed_X7_orNone : GoodIn wsX7_weed wsX7_orNone := goodIn_r _ [32, 33, 34, 35, 36, 9, 37, 38, 39, 40, 41, 42, 43, 44, 45, 46, 47, 48, 49, 50, 51, 52, 53, 54, 55, 56, 57, 58, 59, 60, 61, 62, 63, 64, 65, 66] (by decide +kernel) (by decide +kernel)
set_option maxRecDepth 20000 in
theorem gX7_weed_X7_orNone : GoodIn wsX7_weed (wsV RX7 228 RX7 yX7_orNone wsX7_orNone) := goodIn_app (goodIn_of _ (by decide +kernel)) ggX7_weed_X7_orNone
theorem dX7_weed_0 : decode cX7_weed 0 = .ok (.iconst (-1), 1) := by decide +kernel
theorem dX7_weed_1 : decode cX7_weed 1 = .ok (.istore_n 1, 1) := by decide +kernel
theorem dX7_weed_2 : decode cX7_weed 2 = .ok (.iconst (-1), 1) := by decide +kernel
theorem dX7_weed_3 : decode cX7_weed 3 = .ok (.istore_n 2, 1) := by decide +kernel
theorem dX7_weed_4 : decode cX7_weed 4 = .ok (.iconst 0, 1) := by decide +kernel
theorem dX7_weed_5 : decode cX7_weed 5 = .ok (.istore_n 3, 1) := by decide +kernel
theorem dX7_weed_6 : decode cX7_weed 6 = .ok (.iload_n 3, 1) := by decide +kernel
theorem dX7_weed_7 : decode cX7_weed 7 = .ok (.bipush 36, 2) := by decide +kernel
theorem dX7_weed_9 : decode cX7_weed 9 = .ok (.if_icmp .ge 75, 3) := by decide +kernel
theorem dX7_weed_12 : decode cX7_weed 12 = .ok (.aload_n 0, 1) := by decide +kernel
theorem dX7_weed_13 : decode cX7_weed 13 = .ok (.getfield 9, 3) := by decide +kernel
theorem dX7_weed_16 : decode cX7_weed 16 = .ok (.bipush 49, 2) := by decide +kernel
theorem dX7_weed_18 : decode cX7_weed 18 = .ok (.iload_n 3, 1) := by decide +kernel
theorem dX7_weed_19 : decode cX7_weed 19 = .ok (.iadd, 1) := by decide +kernel
theorem dX7_weed_20 : decode cX7_weed 20 = .ok (.iaload, 1) := by decide +kernel
theorem dX7_weed_21 : decode cX7_weed 21 = .ok (.istore 4, 2) := by decide +kernel
theorem dX7_weed_23 : decode cX7_weed 23 = .ok (.aload_n 0, 1) := by decide +kernel
theorem dX7_weed_24 : decode cX7_weed 24 = .ok (.getfield 9, 3) := by decide +kernel
theorem dX7_weed_27 : decode cX7_weed 27 = .ok (.bipush 49, 2) := by decide +kernel
theorem dX7_weed_29 : decode cX7_weed 29 = .ok (.iload_n 3, 1) := by decide +kernel
theorem dX7_weed_30 : decode cX7_weed 30 = .ok (.iadd, 1) := by decide +kernel
theorem dX7_weed_31 : decode cX7_weed 31 = .ok (.iconst 0, 1) := by decide +kernel
theorem dX7_weed_32 : decode cX7_weed 32 = .ok (.iastore, 1) := by decide +kernel
theorem dX7_weed_33 : decode cX7_weed 33 = .ok (.iload 4, 2) := by decide +kernel
theorem dX7_weed_35 : decode cX7_weed 35 = .ok (.ifCond .le 10, 3) := by decide +kernel
theorem dX7_weed_38 : decode cX7_weed 38 = .ok (.aload_n 0, 1) := by decide +kernel
theorem dX7_weed_39 : decode cX7_weed 39 = .ok (.invokevirtual 237, 3) := by decide +kernel
theorem dX7_weed_42 : decode cX7_weed 42 = .ok (.goto 4, 3) := by decide +kernel
theorem dX7_weed_45 : decode cX7_weed 45 = .ok (.iconst (-1), 1) := by decide +kernel
theorem dX7_weed_46 : decode cX7_weed 46 = .ok (.istore 5, 2) := by decide +kernel
theorem dX7_weed_48 : decode cX7_weed 48 = .ok (.aload_n 0, 1) := by decide +kernel
theorem dX7_weed_49 : decode cX7_weed 49 = .ok (.getfield 9, 3) := by decide +kernel
theorem dX7_weed_52 : decode cX7_weed 52 = .ok (.bipush 49, 2) := by decide +kernel
theorem dX7_weed_54 : decode cX7_weed 54 = .ok (.iload_n 3, 1) := by decide +kernel
theorem dX7_weed_55 : decode cX7_weed 55 = .ok (.iadd, 1) := by decide +kernel
theorem dX7_weed_56 : decode cX7_weed 56 = .ok (.iload 4, 2) := by decide +kernel
theorem dX7_weed_58 : decode cX7_weed 58 = .ok (.iastore, 1) := by decide +kernel
theorem dX7_weed_59 : decode cX7_weed 59 = .ok (.iload 5, 2) := by decide +kernel
theorem dX7_weed_61 : decode cX7_weed 61 = .ok (.iload_n 2, 1) := by decide +kernel
theorem dX7_weed_62 : decode cX7_weed 62 = .ok (.if_icmp .le 7, 3) := by decide +kernel
theorem dX7_weed_65 : decode cX7_weed 65 = .ok (.iload_n 3, 1) := by decide +kernel
theorem dX7_weed_66 : decode cX7_weed 66 = .ok (.goto 4, 3) := by decide +kernel
theorem dX7_weed_69 : decode cX7_weed 69 = .ok (.iload_n 1, 1) := by decide +kernel
theorem dX7_weed_70 : decode cX7_weed 70 = .ok (.istore_n 1, 1) := by decide +kernel
theorem dX7_weed_71 : decode cX7_weed 71 = .ok (.iload_n 2, 1) := by decide +kernel
theorem dX7_weed_72 : decode cX7_weed 72 = .ok (.iload 5, 2) := by decide +kernel
theorem dX7_weed_74 : decode cX7_weed 74 = .ok (.invokestatic 192, 3) := by decide +kernel
theorem dX7_weed_77 : decode cX7_weed 77 = .ok (.istore_n 2, 1) := by decide +kernel
theorem dX7_weed_78 : decode cX7_weed 78 = .ok (.iinc 3 1, 3) := by decide +kernel
theorem dX7_weed_81 : decode cX7_weed 81 = .ok (.goto (-75), 3) := by decide +kernel
theorem dX7_weed_84 : decode cX7_weed 84 = .ok (.aload_n 0, 1) := by decide +kernel
theorem dX7_weed_85 : decode cX7_weed 85 = .ok (.iload_n 1, 1) := by decide +kernel
theorem dX7_weed_86 : decode cX7_weed 86 = .ok (.invokevirtual 228, 3) := by decide +kernel
theorem dX7_weed_89 : decode cX7_weed 89 = .ok (.ireturn, 1) := by decide +kernel
set_option maxRecDepth 20000 in
theorem ggX7_lacks_X7_isSheet : GoodIn wsX7_lacks wsX7_isSheet := goodIn_r _ [7, 8, 9, 6, 10] (by decide +kernel) (by decide +kernel)
set_option maxRecDepth 20000 in
theorem gX7_lacks_X7_isSheet : GoodIn wsX7_lacks (va_wsS RX7 273 yX7_isSheet wsX7_isSheet) := goodIn_app (goodIn_of _ (by decide +kernel)) ggX7_lacks_X7_isSheet
theorem dX7_lacks_0 : decode cX7_lacks 0 = .ok (.iload_n 1, 1) := by decide +kernel
theorem dX7_lacks_1 : decode cX7_lacks 1 = .ok (.invokestatic 273, 3) := by decide +kernel
theorem dX7_lacks_4 : decode cX7_lacks 4 = .ok (.ifCond .ne 8, 3) := by decide +kernel
theorem dX7_lacks_7 : decode cX7_lacks 7 = .ok (.ldc 95, 2) := by decide +kernel
theorem dX7_lacks_9 : decode cX7_lacks 9 = .ok (.goto 19, 3) := by decide +kernel
theorem dX7_lacks_12 : decode cX7_lacks 12 = .ok (.aload_n 0, 1) := by decide +kernel
theorem dX7_lacks_13 : decode cX7_lacks 13 = .ok (.getfield 83, 3) := by decide +kernel
theorem dX7_lacks_16 : decode cX7_lacks 16 = .ok (.iload_n 1, 1) := by decide +kernel
theorem dX7_lacks_17 : decode cX7_lacks 17 = .ok (.iaload, 1) := by decide +kernel
theorem dX7_lacks_18 : decode cX7_lacks 18 = .ok (.ifCond .ne 9, 3) := by decide +kernel
theorem dX7_lacks_21 : decode cX7_lacks 21 = .ok (.ldc_w 276, 3) := by decide +kernel
theorem dX7_lacks_24 : decode cX7_lacks 24 = .ok (.goto 4, 3) := by decide +kernel
theorem dX7_lacks_27 : decode cX7_lacks 27 = .ok (.iconst 0, 1) := by decide +kernel
theorem dX7_lacks_28 : decode cX7_lacks 28 = .ok (.ireturn, 1) := by decide +kernel
set_option maxRecDepth 20000 in
theorem ggX7_wentSo_X7_copyRow : GoodIn wsX7_wentSo wsX7_copyRow := goodIn_r _ [8] (by decide +kernel) (by decide +kernel)
set_option maxRecDepth 20000 in
theorem gX7_wentSo_X7_copyRow : GoodIn wsX7_wentSo (va_wsS RX7 96 yX7_copyRow wsX7_copyRow) := goodIn_app (goodIn_of _ (by decide +kernel)) ggX7_wentSo_X7_copyRow
set_option maxRecDepth 20000 in
theorem ggX7_wentSo_X7_season : GoodIn wsX7_wentSo wsX7_season := goodIn_r _ [12, 1, 13, 14, 15, 16, 17, 18, 19, 7, 20, 21, 22, 23, 24, 25, 26, 27, 28, 29, 30, 31, 32, 33, 34, 35, 36, 37, 38, 39, 40, 41, 42, 43, 44, 45, 46, 47, 48, 49, 50, 51, 52, 53, 54, 55, 56, 57, 58, 59, 60, 61, 62, 63, 64, 65, 66, 67, 68, 69, 70, 71, 72, 73, 74, 75, 76, 77, 78, 79, 80, 81, 82, 83, 84, 85, 86, 87, 88, 89, 90, 91, 92, 93, 94, 95, 96] (by decide +kernel) (by decide +kernel)
set_option maxRecDepth 20000 in
theorem gX7_wentSo_X7_season : GoodIn wsX7_wentSo (wsV RX7 199 RX7 yX7_season wsX7_season) := goodIn_app (goodIn_of _ (by decide +kernel)) ggX7_wentSo_X7_season
theorem dX7_wentSo_0 : decode cX7_wentSo 0 = .ok (.aload_n 0, 1) := by decide +kernel
theorem dX7_wentSo_1 : decode cX7_wentSo 1 = .ok (.getfield 9, 3) := by decide +kernel
theorem dX7_wentSo_4 : decode cX7_wentSo 4 = .ok (.aload_n 0, 1) := by decide +kernel
theorem dX7_wentSo_5 : decode cX7_wentSo 5 = .ok (.getfield 16, 3) := by decide +kernel
theorem dX7_wentSo_8 : decode cX7_wentSo 8 = .ok (.invokestatic 96, 3) := by decide +kernel
theorem dX7_wentSo_11 : decode cX7_wentSo 11 = .ok (.iconst 1, 1) := by decide +kernel
theorem dX7_wentSo_12 : decode cX7_wentSo 12 = .ok (.istore_n 3, 1) := by decide +kernel
theorem dX7_wentSo_13 : decode cX7_wentSo 13 = .ok (.iconst 0, 1) := by decide +kernel
theorem dX7_wentSo_14 : decode cX7_wentSo 14 = .ok (.istore 4, 2) := by decide +kernel
theorem dX7_wentSo_16 : decode cX7_wentSo 16 = .ok (.iload 4, 2) := by decide +kernel
theorem dX7_wentSo_18 : decode cX7_wentSo 18 = .ok (.aload_n 0, 1) := by decide +kernel
theorem dX7_wentSo_19 : decode cX7_wentSo 19 = .ok (.getfield 86, 3) := by decide +kernel
theorem dX7_wentSo_22 : decode cX7_wentSo 22 = .ok (.iload_n 1, 1) := by decide +kernel
theorem dX7_wentSo_23 : decode cX7_wentSo 23 = .ok (.iaload, 1) := by decide +kernel
theorem dX7_wentSo_24 : decode cX7_wentSo 24 = .ok (.if_icmp .ge 57, 3) := by decide +kernel
theorem dX7_wentSo_27 : decode cX7_wentSo 27 = .ok (.iload_n 3, 1) := by decide +kernel
theorem dX7_wentSo_28 : decode cX7_wentSo 28 = .ok (.ifCond .eq 53, 3) := by decide +kernel
theorem dX7_wentSo_31 : decode cX7_wentSo 31 = .ok (.aload_n 0, 1) := by decide +kernel
theorem dX7_wentSo_32 : decode cX7_wentSo 32 = .ok (.getfield 89, 3) := by decide +kernel
theorem dX7_wentSo_35 : decode cX7_wentSo 35 = .ok (.bipush 40, 2) := by decide +kernel
theorem dX7_wentSo_37 : decode cX7_wentSo 37 = .ok (.iload_n 1, 1) := by decide +kernel
theorem dX7_wentSo_38 : decode cX7_wentSo 38 = .ok (.imul, 1) := by decide +kernel
theorem dX7_wentSo_39 : decode cX7_wentSo 39 = .ok (.iload 4, 2) := by decide +kernel
theorem dX7_wentSo_41 : decode cX7_wentSo 41 = .ok (.iadd, 1) := by decide +kernel
theorem dX7_wentSo_42 : decode cX7_wentSo 42 = .ok (.iaload, 1) := by decide +kernel
theorem dX7_wentSo_43 : decode cX7_wentSo 43 = .ok (.istore 5, 2) := by decide +kernel
theorem dX7_wentSo_45 : decode cX7_wentSo 45 = .ok (.iload 5, 2) := by decide +kernel
theorem dX7_wentSo_47 : decode cX7_wentSo 47 = .ok (.iconst (-1), 1) := by decide +kernel
theorem dX7_wentSo_48 : decode cX7_wentSo 48 = .ok (.if_icmp .eq 17, 3) := by decide +kernel
theorem dX7_wentSo_51 : decode cX7_wentSo 51 = .ok (.iload 5, 2) := by decide +kernel
theorem dX7_wentSo_53 : decode cX7_wentSo 53 = .ok (.aload_n 0, 1) := by decide +kernel
theorem dX7_wentSo_54 : decode cX7_wentSo 54 = .ok (.getfield 9, 3) := by decide +kernel
theorem dX7_wentSo_57 : decode cX7_wentSo 57 = .ok (.bipush 49, 2) := by decide +kernel
theorem dX7_wentSo_59 : decode cX7_wentSo 59 = .ok (.iload_n 2, 1) := by decide +kernel
theorem dX7_wentSo_60 : decode cX7_wentSo 60 = .ok (.iadd, 1) := by decide +kernel
theorem dX7_wentSo_61 : decode cX7_wentSo 61 = .ok (.iaload, 1) := by decide +kernel
theorem dX7_wentSo_62 : decode cX7_wentSo 62 = .ok (.if_icmp .ne 7, 3) := by decide +kernel
theorem dX7_wentSo_65 : decode cX7_wentSo 65 = .ok (.iconst 1, 1) := by decide +kernel
theorem dX7_wentSo_66 : decode cX7_wentSo 66 = .ok (.goto 4, 3) := by decide +kernel
theorem dX7_wentSo_69 : decode cX7_wentSo 69 = .ok (.iconst 0, 1) := by decide +kernel
theorem dX7_wentSo_70 : decode cX7_wentSo 70 = .ok (.istore_n 3, 1) := by decide +kernel
theorem dX7_wentSo_71 : decode cX7_wentSo 71 = .ok (.aload_n 0, 1) := by decide +kernel
theorem dX7_wentSo_72 : decode cX7_wentSo 72 = .ok (.invokevirtual 199, 3) := by decide +kernel
theorem dX7_wentSo_75 : decode cX7_wentSo 75 = .ok (.iinc 4 1, 3) := by decide +kernel
theorem dX7_wentSo_78 : decode cX7_wentSo 78 = .ok (.goto (-62), 3) := by decide +kernel
theorem dX7_wentSo_81 : decode cX7_wentSo 81 = .ok (.aload_n 0, 1) := by decide +kernel
theorem dX7_wentSo_82 : decode cX7_wentSo 82 = .ok (.getfield 16, 3) := by decide +kernel
theorem dX7_wentSo_85 : decode cX7_wentSo 85 = .ok (.aload_n 0, 1) := by decide +kernel
theorem dX7_wentSo_86 : decode cX7_wentSo 86 = .ok (.getfield 9, 3) := by decide +kernel
theorem dX7_wentSo_89 : decode cX7_wentSo 89 = .ok (.invokestatic 96, 3) := by decide +kernel
theorem dX7_wentSo_92 : decode cX7_wentSo 92 = .ok (.iload_n 3, 1) := by decide +kernel
theorem dX7_wentSo_93 : decode cX7_wentSo 93 = .ok (.ireturn, 1) := by decide +kernel
set_option maxRecDepth 20000 in
theorem ggX7_fitting_X7_wentSo : GoodIn wsX7_fitting wsX7_wentSo := goodIn_r _ [6, 1, 7, 8, 9, 10, 11, 5, 12, 13, 14, 15, 16, 17, 18, 19, 20, 21, 22, 23, 24, 25, 26, 27, 28, 29, 30, 31, 32, 33, 34, 35, 36, 37, 38, 39, 40, 41, 42, 43, 44, 45, 46, 47, 48, 49, 50, 51, 52, 53, 54, 55, 56, 57, 58, 59, 60, 61, 62, 63, 64, 65, 66, 67, 68, 69, 70, 71, 72, 73, 74, 75, 76, 77, 78, 79, 80, 81, 82, 83, 84, 85, 86, 87, 88, 89, 90, 91, 92, 93, 94, 95, 96, 97, 98, 99, 100] (by decide +kernel) (by decide +kernel)
set_option maxRecDepth 20000 in
theorem gX7_fitting_X7_wentSo : GoodIn wsX7_fitting (wsV RX7 277 RX7 yX7_wentSo wsX7_wentSo) := goodIn_app (goodIn_of _ (by decide +kernel)) ggX7_fitting_X7_wentSo
theorem dX7_fitting_0 : decode cX7_fitting 0 = .ok (.aload_n 0, 1) := by decide +kernel
theorem dX7_fitting_1 : decode cX7_fitting 1 = .ok (.getfield 9, 3) := by decide +kernel
theorem dX7_fitting_4 : decode cX7_fitting 4 = .ok (.iload_n 3, 1) := by decide +kernel
theorem dX7_fitting_5 : decode cX7_fitting 5 = .ok (.iaload, 1) := by decide +kernel
theorem dX7_fitting_6 : decode cX7_fitting 6 = .ok (.istore 5, 2) := by decide +kernel
theorem dX7_fitting_8 : decode cX7_fitting 8 = .ok (.iconst 0, 1) := by decide +kernel
theorem dX7_fitting_9 : decode cX7_fitting 9 = .ok (.istore 6, 2) := by decide +kernel
theorem dX7_fitting_11 : decode cX7_fitting 11 = .ok (.iconst 0, 1) := by decide +kernel
theorem dX7_fitting_12 : decode cX7_fitting 12 = .ok (.istore 7, 2) := by decide +kernel
theorem dX7_fitting_14 : decode cX7_fitting 14 = .ok (.iload 7, 2) := by decide +kernel
theorem dX7_fitting_16 : decode cX7_fitting 16 = .ok (.iload 4, 2) := by decide +kernel
theorem dX7_fitting_18 : decode cX7_fitting 18 = .ok (.if_icmp .ge 39, 3) := by decide +kernel
theorem dX7_fitting_21 : decode cX7_fitting 21 = .ok (.aload_n 0, 1) := by decide +kernel
theorem dX7_fitting_22 : decode cX7_fitting 22 = .ok (.getfield 9, 3) := by decide +kernel
theorem dX7_fitting_25 : decode cX7_fitting 25 = .ok (.iload_n 3, 1) := by decide +kernel
theorem dX7_fitting_26 : decode cX7_fitting 26 = .ok (.iload 7, 2) := by decide +kernel
theorem dX7_fitting_28 : decode cX7_fitting 28 = .ok (.iastore, 1) := by decide +kernel
theorem dX7_fitting_29 : decode cX7_fitting 29 = .ok (.iload 6, 2) := by decide +kernel
theorem dX7_fitting_31 : decode cX7_fitting 31 = .ok (.aload_n 0, 1) := by decide +kernel
theorem dX7_fitting_32 : decode cX7_fitting 32 = .ok (.iload_n 1, 1) := by decide +kernel
theorem dX7_fitting_33 : decode cX7_fitting 33 = .ok (.iload_n 2, 1) := by decide +kernel
theorem dX7_fitting_34 : decode cX7_fitting 34 = .ok (.invokevirtual 277, 3) := by decide +kernel
theorem dX7_fitting_37 : decode cX7_fitting 37 = .ok (.ifCond .eq 10, 3) := by decide +kernel
theorem dX7_fitting_40 : decode cX7_fitting 40 = .ok (.iconst 1, 1) := by decide +kernel
theorem dX7_fitting_41 : decode cX7_fitting 41 = .ok (.iload 7, 2) := by decide +kernel
theorem dX7_fitting_43 : decode cX7_fitting 43 = .ok (.ishl, 1) := by decide +kernel
theorem dX7_fitting_44 : decode cX7_fitting 44 = .ok (.goto 4, 3) := by decide +kernel
theorem dX7_fitting_47 : decode cX7_fitting 47 = .ok (.iconst 0, 1) := by decide +kernel
theorem dX7_fitting_48 : decode cX7_fitting 48 = .ok (.ior, 1) := by decide +kernel
theorem dX7_fitting_49 : decode cX7_fitting 49 = .ok (.istore 6, 2) := by decide +kernel
theorem dX7_fitting_51 : decode cX7_fitting 51 = .ok (.iinc 7 1, 3) := by decide +kernel
theorem dX7_fitting_54 : decode cX7_fitting 54 = .ok (.goto (-40), 3) := by decide +kernel
theorem dX7_fitting_57 : decode cX7_fitting 57 = .ok (.aload_n 0, 1) := by decide +kernel
theorem dX7_fitting_58 : decode cX7_fitting 58 = .ok (.getfield 9, 3) := by decide +kernel
theorem dX7_fitting_61 : decode cX7_fitting 61 = .ok (.iload_n 3, 1) := by decide +kernel
theorem dX7_fitting_62 : decode cX7_fitting 62 = .ok (.iload 5, 2) := by decide +kernel
theorem dX7_fitting_64 : decode cX7_fitting 64 = .ok (.iastore, 1) := by decide +kernel
theorem dX7_fitting_65 : decode cX7_fitting 65 = .ok (.iload 6, 2) := by decide +kernel
theorem dX7_fitting_67 : decode cX7_fitting 67 = .ok (.ireturn, 1) := by decide +kernel
set_option maxRecDepth 20000 in
theorem ggX7_fits_X7_lacks : GoodIn wsX7_fits wsX7_lacks := goodIn_r _ [6, 1, 7, 8, 9, 10, 5, 11, 12, 13, 14, 103, 104, 105, 106, 107, 108, 109, 110, 111, 112, 113, 114, 115, 116, 117, 118, 119, 120, 121, 122, 123, 124, 125, 126, 127, 128, 129] (by decide +kernel) (by decide +kernel)
set_option maxRecDepth 20000 in
theorem gX7_fits_X7_lacks : GoodIn wsX7_fits (wsV RX7 280 RX7 yX7_lacks wsX7_lacks) := goodIn_app (goodIn_of _ (by decide +kernel)) ggX7_fits_X7_lacks
set_option maxRecDepth 20000 in
theorem ggX7_fits_X7_finding : GoodIn wsX7_fits wsX7_finding := goodIn_r _ [18, 19, 1, 103, 104, 105, 106, 107, 108, 109, 110, 111, 112, 113, 114, 115, 116, 117, 118, 119, 120, 121, 122, 123, 124, 125, 126, 127, 128, 129] (by decide +kernel) (by decide +kernel)
set_option maxRecDepth 20000 in
theorem gX7_fits_X7_finding : GoodIn wsX7_fits (wsV RX7 101 RX7 yX7_finding wsX7_finding) := goodIn_app (goodIn_of _ (by decide +kernel)) ggX7_fits_X7_finding
set_option maxRecDepth 20000 in
theorem ggX7_fits_X7_isSeed : GoodIn wsX7_fits wsX7_isSeed := goodIn_r _ [23, 24, 12, 13, 5, 14, 103, 104, 105, 106, 107, 108, 109, 110, 111, 112, 113, 114, 115, 116, 117, 118, 119, 120, 121, 122, 123, 124, 125, 126, 127, 128, 129] (by decide +kernel) (by decide +kernel)
set_option maxRecDepth 20000 in
theorem gX7_fits_X7_isSeed : GoodIn wsX7_fits (wsV RX7 182 RX7 yX7_isSeed wsX7_isSeed) := goodIn_app (goodIn_of _ (by decide +kernel)) ggX7_fits_X7_isSeed
set_option maxRecDepth 20000 in
theorem ggX7_fits_X7_isCell : GoodIn wsX7_fits wsX7_isCell := goodIn_r _ [27, 12, 13, 5, 14] (by decide +kernel) (by decide +kernel)
set_option maxRecDepth 20000 in
theorem gX7_fits_X7_isCell : GoodIn wsX7_fits (va_wsS RX7 116 yX7_isCell wsX7_isCell) := goodIn_app (goodIn_of _ (by decide +kernel)) ggX7_fits_X7_isCell
set_option maxRecDepth 20000 in
theorem ggX7_fits_X7_at : GoodIn wsX7_fits wsX7_at := goodIn_r _ [30] (by decide +kernel) (by decide +kernel)
set_option maxRecDepth 20000 in
theorem gX7_fits_X7_at : GoodIn wsX7_fits (va_wsS RX7 109 yX7_at wsX7_at) := goodIn_app (goodIn_of _ (by decide +kernel)) ggX7_fits_X7_at
set_option maxRecDepth 20000 in
theorem ggX7_fits_X7_fitting : GoodIn wsX7_fits wsX7_fitting := goodIn_r _ [34, 24, 35, 36, 37, 5, 38, 39, 40, 41, 42, 43, 44, 45, 46, 47, 48, 49, 50, 51, 52, 53, 54, 55, 56, 57, 58, 59, 60, 61, 28, 29, 30, 62, 63, 64, 65, 66, 67, 68, 69, 70, 71, 72, 73, 74, 75, 76, 77, 78, 79, 80, 81, 82, 83, 84, 85, 86, 87, 88, 89, 90, 91, 92, 93, 94, 95, 96, 97, 98, 99, 100, 101, 102, 103, 104, 105, 106, 107, 108, 109, 110, 111, 112, 113, 114, 115, 116, 117, 118, 119, 120, 121, 122, 123, 124, 125, 126, 127, 128, 129] (by decide +kernel) (by decide +kernel)
set_option maxRecDepth 20000 in
theorem gX7_fits_X7_fitting : GoodIn wsX7_fits (wsV RX7 283 RX7 yX7_fitting wsX7_fitting) := goodIn_app (goodIn_of _ (by decide +kernel)) ggX7_fits_X7_fitting
theorem dX7_fits_0 : decode cX7_fits 0 = .ok (.aload_n 0, 1) := by decide +kernel
theorem dX7_fits_1 : decode cX7_fits 1 = .ok (.iload_n 1, 1) := by decide +kernel
theorem dX7_fits_2 : decode cX7_fits 2 = .ok (.invokevirtual 280, 3) := by decide +kernel
theorem dX7_fits_5 : decode cX7_fits 5 = .ok (.ifCond .eq 13, 3) := by decide +kernel
theorem dX7_fits_8 : decode cX7_fits 8 = .ok (.aload_n 0, 1) := by decide +kernel
theorem dX7_fits_9 : decode cX7_fits 9 = .ok (.aload_n 0, 1) := by decide +kernel
theorem dX7_fits_10 : decode cX7_fits 10 = .ok (.iload_n 1, 1) := by decide +kernel
theorem dX7_fits_11 : decode cX7_fits 11 = .ok (.invokevirtual 280, 3) := by decide +kernel
theorem dX7_fits_14 : decode cX7_fits 14 = .ok (.invokevirtual 101, 3) := by decide +kernel
theorem dX7_fits_17 : decode cX7_fits 17 = .ok (.ireturn, 1) := by decide +kernel
theorem dX7_fits_18 : decode cX7_fits 18 = .ok (.aload_n 0, 1) := by decide +kernel
theorem dX7_fits_19 : decode cX7_fits 19 = .ok (.iload_n 2, 1) := by decide +kernel
theorem dX7_fits_20 : decode cX7_fits 20 = .ok (.invokevirtual 182, 3) := by decide +kernel
theorem dX7_fits_23 : decode cX7_fits 23 = .ok (.ifCond .eq 26, 3) := by decide +kernel
theorem dX7_fits_26 : decode cX7_fits 26 = .ok (.iload_n 3, 1) := by decide +kernel
theorem dX7_fits_27 : decode cX7_fits 27 = .ok (.invokestatic 116, 3) := by decide +kernel
theorem dX7_fits_30 : decode cX7_fits 30 = .ok (.ifCond .eq 19, 3) := by decide +kernel
theorem dX7_fits_33 : decode cX7_fits 33 = .ok (.aload_n 0, 1) := by decide +kernel
theorem dX7_fits_34 : decode cX7_fits 34 = .ok (.iload_n 1, 1) := by decide +kernel
theorem dX7_fits_35 : decode cX7_fits 35 = .ok (.iload_n 3, 1) := by decide +kernel
theorem dX7_fits_36 : decode cX7_fits 36 = .ok (.iload_n 2, 1) := by decide +kernel
theorem dX7_fits_37 : decode cX7_fits 37 = .ok (.iconst 0, 1) := by decide +kernel
theorem dX7_fits_38 : decode cX7_fits 38 = .ok (.invokestatic 109, 3) := by decide +kernel
theorem dX7_fits_41 : decode cX7_fits 41 = .ok (.bipush 7, 2) := by decide +kernel
theorem dX7_fits_43 : decode cX7_fits 43 = .ok (.invokevirtual 283, 3) := by decide +kernel
theorem dX7_fits_46 : decode cX7_fits 46 = .ok (.goto 9, 3) := by decide +kernel
theorem dX7_fits_49 : decode cX7_fits 49 = .ok (.aload_n 0, 1) := by decide +kernel
theorem dX7_fits_50 : decode cX7_fits 50 = .ok (.ldc 95, 2) := by decide +kernel
theorem dX7_fits_52 : decode cX7_fits 52 = .ok (.invokevirtual 101, 3) := by decide +kernel
theorem dX7_fits_55 : decode cX7_fits 55 = .ok (.ireturn, 1) := by decide +kernel
set_option maxRecDepth 20000 in
theorem ggX7_headings_X7_lacks : GoodIn wsX7_headings wsX7_lacks := goodIn_r _ [6, 1, 7, 8, 9, 10, 5, 11, 12, 13, 14, 106, 107, 108, 109, 110, 111, 112, 113, 114, 115, 116, 117, 118, 119, 120, 121, 122, 123, 124, 125, 126, 127, 128, 129, 130, 131, 132] (by decide +kernel) (by decide +kernel)
set_option maxRecDepth 20000 in
theorem gX7_headings_X7_lacks : GoodIn wsX7_headings (wsV RX7 280 RX7 yX7_lacks wsX7_lacks) := goodIn_app (goodIn_of _ (by decide +kernel)) ggX7_headings_X7_lacks
set_option maxRecDepth 20000 in
theorem ggX7_headings_X7_finding : GoodIn wsX7_headings wsX7_finding := goodIn_r _ [18, 19, 1, 106, 107, 108, 109, 110, 111, 112, 113, 114, 115, 116, 117, 118, 119, 120, 121, 122, 123, 124, 125, 126, 127, 128, 129, 130, 131, 132] (by decide +kernel) (by decide +kernel)
set_option maxRecDepth 20000 in
theorem gX7_headings_X7_finding : GoodIn wsX7_headings (wsV RX7 101 RX7 yX7_finding wsX7_finding) := goodIn_app (goodIn_of _ (by decide +kernel)) ggX7_headings_X7_finding
set_option maxRecDepth 20000 in
theorem ggX7_headings_X7_isSeed : GoodIn wsX7_headings wsX7_isSeed := goodIn_r _ [23, 24, 12, 13, 5, 14, 106, 107, 108, 109, 110, 111, 112, 113, 114, 115, 116, 117, 118, 119, 120, 121, 122, 123, 124, 125, 126, 127, 128, 129, 130, 131, 132] (by decide +kernel) (by decide +kernel)
set_option maxRecDepth 20000 in
theorem gX7_headings_X7_isSeed : GoodIn wsX7_headings (wsV RX7 182 RX7 yX7_isSeed wsX7_isSeed) := goodIn_app (goodIn_of _ (by decide +kernel)) ggX7_headings_X7_isSeed
set_option maxRecDepth 20000 in
theorem ggX7_headings_X7_isCell : GoodIn wsX7_headings wsX7_isCell := goodIn_r _ [27, 12, 13, 5, 14] (by decide +kernel) (by decide +kernel)
set_option maxRecDepth 20000 in
theorem gX7_headings_X7_isCell : GoodIn wsX7_headings (va_wsS RX7 116 yX7_isCell wsX7_isCell) := goodIn_app (goodIn_of _ (by decide +kernel)) ggX7_headings_X7_isCell
set_option maxRecDepth 20000 in
theorem ggX7_headings_X7_at : GoodIn wsX7_headings wsX7_at := goodIn_r _ [30] (by decide +kernel) (by decide +kernel)
set_option maxRecDepth 20000 in
theorem gX7_headings_X7_at : GoodIn wsX7_headings (va_wsS RX7 109 yX7_at wsX7_at) := goodIn_app (goodIn_of _ (by decide +kernel)) ggX7_headings_X7_at
set_option maxRecDepth 20000 in
theorem ggX7_headings_X7_fitting : GoodIn wsX7_headings wsX7_fitting := goodIn_r _ [34, 24, 35, 36, 37, 5, 38, 39, 40, 41, 42, 43, 44, 45, 46, 47, 48, 49, 50, 51, 52, 53, 54, 55, 56, 57, 58, 59, 60, 61, 28, 29, 30, 62, 63, 64, 65, 66, 67, 68, 69, 70, 71, 72, 73, 74, 75, 76, 77, 78, 79, 80, 81, 82, 83, 84, 85, 86, 87, 88, 89, 90, 91, 92, 93, 94, 95, 96, 97, 98, 99, 100, 101, 102, 106, 107, 108, 109, 110, 111, 112, 113, 114, 115, 116, 117, 118, 119, 120, 121, 122, 123, 124, 125, 126, 127, 128, 129, 130, 131, 132] (by decide +kernel) (by decide +kernel)
set_option maxRecDepth 20000 in
theorem gX7_headings_X7_fitting : GoodIn wsX7_headings (wsV RX7 283 RX7 yX7_fitting wsX7_fitting) := goodIn_app (goodIn_of _ (by decide +kernel)) ggX7_headings_X7_fitting
set_option maxRecDepth 20000 in
theorem ggX7_headings_X7_bits : GoodIn wsX7_headings wsX7_bits := goodIn_r _ [105] (by decide +kernel) (by decide +kernel)
set_option maxRecDepth 20000 in
theorem gX7_headings_X7_bits : GoodIn wsX7_headings (va_wsS RX7 286 yX7_bits wsX7_bits) := goodIn_app (goodIn_of _ (by decide +kernel)) ggX7_headings_X7_bits
theorem dX7_headings_0 : decode cX7_headings 0 = .ok (.aload_n 0, 1) := by decide +kernel
theorem dX7_headings_1 : decode cX7_headings 1 = .ok (.iload_n 1, 1) := by decide +kernel
theorem dX7_headings_2 : decode cX7_headings 2 = .ok (.invokevirtual 280, 3) := by decide +kernel
theorem dX7_headings_5 : decode cX7_headings 5 = .ok (.ifCond .eq 13, 3) := by decide +kernel
theorem dX7_headings_8 : decode cX7_headings 8 = .ok (.aload_n 0, 1) := by decide +kernel
theorem dX7_headings_9 : decode cX7_headings 9 = .ok (.aload_n 0, 1) := by decide +kernel
theorem dX7_headings_10 : decode cX7_headings 10 = .ok (.iload_n 1, 1) := by decide +kernel
theorem dX7_headings_11 : decode cX7_headings 11 = .ok (.invokevirtual 280, 3) := by decide +kernel
theorem dX7_headings_14 : decode cX7_headings 14 = .ok (.invokevirtual 101, 3) := by decide +kernel
theorem dX7_headings_17 : decode cX7_headings 17 = .ok (.ireturn, 1) := by decide +kernel
theorem dX7_headings_18 : decode cX7_headings 18 = .ok (.aload_n 0, 1) := by decide +kernel
theorem dX7_headings_19 : decode cX7_headings 19 = .ok (.iload_n 2, 1) := by decide +kernel
theorem dX7_headings_20 : decode cX7_headings 20 = .ok (.invokevirtual 182, 3) := by decide +kernel
theorem dX7_headings_23 : decode cX7_headings 23 = .ok (.ifCond .eq 28, 3) := by decide +kernel
theorem dX7_headings_26 : decode cX7_headings 26 = .ok (.iload_n 3, 1) := by decide +kernel
theorem dX7_headings_27 : decode cX7_headings 27 = .ok (.invokestatic 116, 3) := by decide +kernel
theorem dX7_headings_30 : decode cX7_headings 30 = .ok (.ifCond .eq 21, 3) := by decide +kernel
theorem dX7_headings_33 : decode cX7_headings 33 = .ok (.aload_n 0, 1) := by decide +kernel
theorem dX7_headings_34 : decode cX7_headings 34 = .ok (.iload_n 1, 1) := by decide +kernel
theorem dX7_headings_35 : decode cX7_headings 35 = .ok (.iload_n 3, 1) := by decide +kernel
theorem dX7_headings_36 : decode cX7_headings 36 = .ok (.iload_n 2, 1) := by decide +kernel
theorem dX7_headings_37 : decode cX7_headings 37 = .ok (.iconst 2, 1) := by decide +kernel
theorem dX7_headings_38 : decode cX7_headings 38 = .ok (.invokestatic 109, 3) := by decide +kernel
theorem dX7_headings_41 : decode cX7_headings 41 = .ok (.iconst 4, 1) := by decide +kernel
theorem dX7_headings_42 : decode cX7_headings 42 = .ok (.invokevirtual 283, 3) := by decide +kernel
theorem dX7_headings_45 : decode cX7_headings 45 = .ok (.invokestatic 286, 3) := by decide +kernel
theorem dX7_headings_48 : decode cX7_headings 48 = .ok (.goto 9, 3) := by decide +kernel
theorem dX7_headings_51 : decode cX7_headings 51 = .ok (.aload_n 0, 1) := by decide +kernel
theorem dX7_headings_52 : decode cX7_headings 52 = .ok (.ldc 95, 2) := by decide +kernel
theorem dX7_headings_54 : decode cX7_headings 54 = .ok (.invokevirtual 101, 3) := by decide +kernel
theorem dX7_headings_57 : decode cX7_headings 57 = .ok (.ireturn, 1) := by decide +kernel
theorem dX7_drawn_0 : decode cX7_drawn 0 = .ok (.aload_n 0, 1) := by decide +kernel
theorem dX7_drawn_1 : decode cX7_drawn 1 = .ok (.getfield 9, 3) := by decide +kernel
theorem dX7_drawn_4 : decode cX7_drawn 4 = .ok (.iconst 2, 1) := by decide +kernel
theorem dX7_drawn_5 : decode cX7_drawn 5 = .ok (.aload_n 0, 1) := by decide +kernel
theorem dX7_drawn_6 : decode cX7_drawn 6 = .ok (.getfield 9, 3) := by decide +kernel
theorem dX7_drawn_9 : decode cX7_drawn 9 = .ok (.iconst 2, 1) := by decide +kernel
theorem dX7_drawn_10 : decode cX7_drawn 10 = .ok (.iaload, 1) := by decide +kernel
theorem dX7_drawn_11 : decode cX7_drawn 11 = .ok (.ldc_w 289, 3) := by decide +kernel
theorem dX7_drawn_14 : decode cX7_drawn 14 = .ok (.imul, 1) := by decide +kernel
theorem dX7_drawn_15 : decode cX7_drawn 15 = .ok (.sipush 12345, 3) := by decide +kernel
theorem dX7_drawn_18 : decode cX7_drawn 18 = .ok (.iadd, 1) := by decide +kernel
theorem dX7_drawn_19 : decode cX7_drawn 19 = .ok (.iastore, 1) := by decide +kernel
theorem dX7_drawn_20 : decode cX7_drawn 20 = .ok (.aload_n 0, 1) := by decide +kernel
theorem dX7_drawn_21 : decode cX7_drawn 21 = .ok (.getfield 9, 3) := by decide +kernel
theorem dX7_drawn_24 : decode cX7_drawn 24 = .ok (.iconst 2, 1) := by decide +kernel
theorem dX7_drawn_25 : decode cX7_drawn 25 = .ok (.iaload, 1) := by decide +kernel
theorem dX7_drawn_26 : decode cX7_drawn 26 = .ok (.bipush 8, 2) := by decide +kernel
theorem dX7_drawn_28 : decode cX7_drawn 28 = .ok (.iushr, 1) := by decide +kernel
theorem dX7_drawn_29 : decode cX7_drawn 29 = .ok (.ireturn, 1) := by decide +kernel
set_option maxRecDepth 20000 in
theorem ggX7_dogs_X7_within : GoodIn wsX7_dogs wsX7_within := goodIn_r _ [8] (by decide +kernel) (by decide +kernel)
set_option maxRecDepth 20000 in
theorem gX7_dogs_X7_within : GoodIn wsX7_dogs (va_wsS RX7 105 yX7_within wsX7_within) := goodIn_app (goodIn_of _ (by decide +kernel)) ggX7_dogs_X7_within
set_option maxRecDepth 20000 in
theorem ggX7_dogs_X7_finding : GoodIn wsX7_dogs wsX7_finding := goodIn_r _ [12, 13, 1, 88, 89, 90, 91, 92, 93, 94, 95, 96, 97, 98, 99, 100, 101, 102, 103, 104, 105, 106, 107, 108, 109, 110, 111, 112, 113, 114] (by decide +kernel) (by decide +kernel)
set_option maxRecDepth 20000 in
theorem gX7_dogs_X7_finding : GoodIn wsX7_dogs (wsV RX7 101 RX7 yX7_finding wsX7_finding) := goodIn_app (goodIn_of _ (by decide +kernel)) ggX7_dogs_X7_finding
set_option maxRecDepth 20000 in
theorem ggX7_dogs_X7_drawn : GoodIn wsX7_dogs wsX7_drawn := goodIn_r _ [17, 2, 18, 88, 89, 90, 91, 92, 93, 94, 95, 96, 97, 98, 99, 100, 101, 102, 103, 104, 105, 106, 107, 108, 109, 110, 111, 112, 113, 114] (by decide +kernel) (by decide +kernel)
set_option maxRecDepth 20000 in
theorem gX7_dogs_X7_drawn : GoodIn wsX7_dogs (wsV RX7 290 RX7 yX7_drawn wsX7_drawn) := goodIn_app (goodIn_of _ (by decide +kernel)) ggX7_dogs_X7_drawn
set_option maxRecDepth 20000 in
theorem ggX7_dogs_X7_season : GoodIn wsX7_dogs wsX7_season := goodIn_r _ [22, 2, 23, 24, 25, 26, 27, 28, 29, 7, 30, 31, 32, 33, 34, 35, 36, 37, 38, 39, 40, 41, 42, 43, 44, 45, 46, 47, 48, 49, 50, 51, 52, 53, 54, 55, 56, 57, 58, 59, 60, 61, 62, 63, 64, 65, 66, 67, 68, 69, 70, 71, 72, 73, 74, 75, 76, 77, 78, 79, 88, 89, 90, 91, 92, 93, 94, 95, 96, 97, 98, 99, 100, 101, 102, 103, 104, 105, 106, 107, 108, 109, 110, 111, 112, 113, 114] (by decide +kernel) (by decide +kernel)
set_option maxRecDepth 20000 in
theorem gX7_dogs_X7_season : GoodIn wsX7_dogs (wsV RX7 199 RX7 yX7_season wsX7_season) := goodIn_app (goodIn_of _ (by decide +kernel)) ggX7_dogs_X7_season
set_option maxRecDepth 20000 in
theorem ggX7_dogs_X7_pathsNow : GoodIn wsX7_dogs wsX7_pathsNow := goodIn_r _ [83, 84, 85, 86, 7, 87, 2, 88, 89, 90, 91, 92, 93, 94, 95, 96, 97, 98, 99, 100, 101, 102, 103, 104, 105, 106, 107, 108, 109, 110, 111, 112, 113, 114] (by decide +kernel) (by decide +kernel)
set_option maxRecDepth 20000 in
theorem gX7_dogs_X7_pathsNow : GoodIn wsX7_dogs (wsV RX7 209 RX7 yX7_pathsNow wsX7_pathsNow) := goodIn_app (goodIn_of _ (by decide +kernel)) ggX7_dogs_X7_pathsNow
theorem dX7_dogs_0 : decode cX7_dogs 0 = .ok (.iload_n 1, 1) := by decide +kernel
theorem dX7_dogs_1 : decode cX7_dogs 1 = .ok (.iconst 1, 1) := by decide +kernel
theorem dX7_dogs_2 : decode cX7_dogs 2 = .ok (.bipush 20, 2) := by decide +kernel
theorem dX7_dogs_4 : decode cX7_dogs 4 = .ok (.invokestatic 105, 3) := by decide +kernel
theorem dX7_dogs_7 : decode cX7_dogs 7 = .ok (.ifCond .ne 10, 3) := by decide +kernel
theorem dX7_dogs_10 : decode cX7_dogs 10 = .ok (.aload_n 0, 1) := by decide +kernel
theorem dX7_dogs_11 : decode cX7_dogs 11 = .ok (.ldc 95, 2) := by decide +kernel
theorem dX7_dogs_13 : decode cX7_dogs 13 = .ok (.invokevirtual 101, 3) := by decide +kernel
theorem dX7_dogs_16 : decode cX7_dogs 16 = .ok (.ireturn, 1) := by decide +kernel
theorem dX7_dogs_17 : decode cX7_dogs 17 = .ok (.aload_n 0, 1) := by decide +kernel
theorem dX7_dogs_18 : decode cX7_dogs 18 = .ok (.getfield 9, 3) := by decide +kernel
theorem dX7_dogs_21 : decode cX7_dogs 21 = .ok (.iconst 0, 1) := by decide +kernel
theorem dX7_dogs_22 : decode cX7_dogs 22 = .ok (.iaload, 1) := by decide +kernel
theorem dX7_dogs_23 : decode cX7_dogs 23 = .ok (.iload_n 1, 1) := by decide +kernel
theorem dX7_dogs_24 : decode cX7_dogs 24 = .ok (.iadd, 1) := by decide +kernel
theorem dX7_dogs_25 : decode cX7_dogs 25 = .ok (.ldc 205, 2) := by decide +kernel
theorem dX7_dogs_27 : decode cX7_dogs 27 = .ok (.if_icmp .le 10, 3) := by decide +kernel
theorem dX7_dogs_30 : decode cX7_dogs 30 = .ok (.aload_n 0, 1) := by decide +kernel
theorem dX7_dogs_31 : decode cX7_dogs 31 = .ok (.ldc 144, 2) := by decide +kernel
theorem dX7_dogs_33 : decode cX7_dogs 33 = .ok (.invokevirtual 101, 3) := by decide +kernel
theorem dX7_dogs_36 : decode cX7_dogs 36 = .ok (.ireturn, 1) := by decide +kernel
theorem dX7_dogs_37 : decode cX7_dogs 37 = .ok (.iconst 0, 1) := by decide +kernel
theorem dX7_dogs_38 : decode cX7_dogs 38 = .ok (.istore_n 2, 1) := by decide +kernel
theorem dX7_dogs_39 : decode cX7_dogs 39 = .ok (.iload_n 2, 1) := by decide +kernel
theorem dX7_dogs_40 : decode cX7_dogs 40 = .ok (.iload_n 1, 1) := by decide +kernel
theorem dX7_dogs_41 : decode cX7_dogs 41 = .ok (.if_icmp .ge 29, 3) := by decide +kernel
theorem dX7_dogs_44 : decode cX7_dogs 44 = .ok (.aload_n 0, 1) := by decide +kernel
theorem dX7_dogs_45 : decode cX7_dogs 45 = .ok (.getfield 9, 3) := by decide +kernel
theorem dX7_dogs_48 : decode cX7_dogs 48 = .ok (.bipush 49, 2) := by decide +kernel
theorem dX7_dogs_50 : decode cX7_dogs 50 = .ok (.aload_n 0, 1) := by decide +kernel
theorem dX7_dogs_51 : decode cX7_dogs 51 = .ok (.invokevirtual 290, 3) := by decide +kernel
theorem dX7_dogs_54 : decode cX7_dogs 54 = .ok (.bipush 36, 2) := by decide +kernel
theorem dX7_dogs_56 : decode cX7_dogs 56 = .ok (.irem, 1) := by decide +kernel
theorem dX7_dogs_57 : decode cX7_dogs 57 = .ok (.iadd, 1) := by decide +kernel
theorem dX7_dogs_58 : decode cX7_dogs 58 = .ok (.iconst 0, 1) := by decide +kernel
theorem dX7_dogs_59 : decode cX7_dogs 59 = .ok (.iastore, 1) := by decide +kernel
theorem dX7_dogs_60 : decode cX7_dogs 60 = .ok (.aload_n 0, 1) := by decide +kernel
theorem dX7_dogs_61 : decode cX7_dogs 61 = .ok (.invokevirtual 199, 3) := by decide +kernel
theorem dX7_dogs_64 : decode cX7_dogs 64 = .ok (.iinc 2 1, 3) := by decide +kernel
theorem dX7_dogs_67 : decode cX7_dogs 67 = .ok (.goto (-28), 3) := by decide +kernel
theorem dX7_dogs_70 : decode cX7_dogs 70 = .ok (.aload_n 0, 1) := by decide +kernel
theorem dX7_dogs_71 : decode cX7_dogs 71 = .ok (.invokevirtual 209, 3) := by decide +kernel
theorem dX7_dogs_74 : decode cX7_dogs 74 = .ok (.ireturn, 1) := by decide +kernel
set_option maxRecDepth 20000 in
theorem ggX7_odds_X7_within : GoodIn wsX7_odds wsX7_within := goodIn_r _ [5] (by decide +kernel) (by decide +kernel)
set_option maxRecDepth 20000 in
theorem gX7_odds_X7_within : GoodIn wsX7_odds (va_wsS RX7 105 yX7_within wsX7_within) := goodIn_app (goodIn_of _ (by decide +kernel)) ggX7_odds_X7_within
set_option maxRecDepth 20000 in
theorem ggX7_odds_X7_finding : GoodIn wsX7_odds wsX7_finding := goodIn_r _ [9, 10, 1, 20, 21, 22, 23, 24, 25, 26, 27, 28, 29, 30, 31, 32, 33, 34, 35, 36, 37, 38, 39, 40, 41, 42, 43, 44, 45, 46] (by decide +kernel) (by decide +kernel)
set_option maxRecDepth 20000 in
theorem gX7_odds_X7_finding : GoodIn wsX7_odds (wsV RX7 101 RX7 yX7_finding wsX7_finding) := goodIn_app (goodIn_of _ (by decide +kernel)) ggX7_odds_X7_finding
set_option maxRecDepth 20000 in
theorem ggX7_odds_X7_pathsNow : GoodIn wsX7_odds wsX7_pathsNow := goodIn_r _ [14, 15, 16, 17, 4, 18, 19, 20, 21, 22, 23, 24, 25, 26, 27, 28, 29, 30, 31, 32, 33, 34, 35, 36, 37, 38, 39, 40, 41, 42, 43, 44, 45, 46] (by decide +kernel) (by decide +kernel)
set_option maxRecDepth 20000 in
theorem gX7_odds_X7_pathsNow : GoodIn wsX7_odds (wsV RX7 209 RX7 yX7_pathsNow wsX7_pathsNow) := goodIn_app (goodIn_of _ (by decide +kernel)) ggX7_odds_X7_pathsNow
theorem dX7_odds_0 : decode cX7_odds 0 = .ok (.iload_n 1, 1) := by decide +kernel
theorem dX7_odds_1 : decode cX7_odds 1 = .ok (.iconst 0, 1) := by decide +kernel
theorem dX7_odds_2 : decode cX7_odds 2 = .ok (.bipush 11, 2) := by decide +kernel
theorem dX7_odds_4 : decode cX7_odds 4 = .ok (.invokestatic 105, 3) := by decide +kernel
theorem dX7_odds_7 : decode cX7_odds 7 = .ok (.ifCond .eq 12, 3) := by decide +kernel
theorem dX7_odds_10 : decode cX7_odds 10 = .ok (.iload_n 2, 1) := by decide +kernel
theorem dX7_odds_11 : decode cX7_odds 11 = .ok (.iconst 0, 1) := by decide +kernel
theorem dX7_odds_12 : decode cX7_odds 12 = .ok (.iconst 1, 1) := by decide +kernel
theorem dX7_odds_13 : decode cX7_odds 13 = .ok (.invokestatic 105, 3) := by decide +kernel
theorem dX7_odds_16 : decode cX7_odds 16 = .ok (.ifCond .ne 11, 3) := by decide +kernel
theorem dX7_odds_19 : decode cX7_odds 19 = .ok (.aload_n 0, 1) := by decide +kernel
theorem dX7_odds_20 : decode cX7_odds 20 = .ok (.ldc 95, 2) := by decide +kernel
theorem dX7_odds_22 : decode cX7_odds 22 = .ok (.invokevirtual 101, 3) := by decide +kernel
theorem dX7_odds_25 : decode cX7_odds 25 = .ok (.i2l, 1) := by decide +kernel
theorem dX7_odds_26 : decode cX7_odds 26 = .ok (.lreturn, 1) := by decide +kernel
theorem dX7_odds_27 : decode cX7_odds 27 = .ok (.bipush 36, 2) := by decide +kernel
theorem dX7_odds_29 : decode cX7_odds 29 = .ok (.aload_n 0, 1) := by decide +kernel
theorem dX7_odds_30 : decode cX7_odds 30 = .ok (.invokevirtual 209, 3) := by decide +kernel
theorem dX7_odds_33 : decode cX7_odds 33 = .ok (.isub, 1) := by decide +kernel
theorem dX7_odds_34 : decode cX7_odds 34 = .ok (.istore_n 3, 1) := by decide +kernel
theorem dX7_odds_35 : decode cX7_odds 35 = .ok (.bipush 36, 2) := by decide +kernel
theorem dX7_odds_37 : decode cX7_odds 37 = .ok (.istore 4, 2) := by decide +kernel
theorem dX7_odds_39 : decode cX7_odds 39 = .ok (.iload_n 3, 1) := by decide +kernel
theorem dX7_odds_40 : decode cX7_odds 40 = .ok (.istore 5, 2) := by decide +kernel
theorem dX7_odds_42 : decode cX7_odds 42 = .ok (.iload 5, 2) := by decide +kernel
theorem dX7_odds_44 : decode cX7_odds 44 = .ok (.ifCond .eq 21, 3) := by decide +kernel
theorem dX7_odds_47 : decode cX7_odds 47 = .ok (.iload 4, 2) := by decide +kernel
theorem dX7_odds_49 : decode cX7_odds 49 = .ok (.iload 5, 2) := by decide +kernel
theorem dX7_odds_51 : decode cX7_odds 51 = .ok (.irem, 1) := by decide +kernel
theorem dX7_odds_52 : decode cX7_odds 52 = .ok (.istore 6, 2) := by decide +kernel
theorem dX7_odds_54 : decode cX7_odds 54 = .ok (.iload 5, 2) := by decide +kernel
theorem dX7_odds_56 : decode cX7_odds 56 = .ok (.istore 4, 2) := by decide +kernel
theorem dX7_odds_58 : decode cX7_odds 58 = .ok (.iload 6, 2) := by decide +kernel
theorem dX7_odds_60 : decode cX7_odds 60 = .ok (.istore 5, 2) := by decide +kernel
theorem dX7_odds_62 : decode cX7_odds 62 = .ok (.goto (-20), 3) := by decide +kernel
theorem dX7_odds_65 : decode cX7_odds 65 = .ok (.lconst 1, 1) := by decide +kernel
theorem dX7_odds_66 : decode cX7_odds 66 = .ok (.lstore 6, 2) := by decide +kernel
theorem dX7_odds_68 : decode cX7_odds 68 = .ok (.iconst 0, 1) := by decide +kernel
theorem dX7_odds_69 : decode cX7_odds 69 = .ok (.istore 8, 2) := by decide +kernel
theorem dX7_odds_71 : decode cX7_odds 71 = .ok (.iload 8, 2) := by decide +kernel
theorem dX7_odds_73 : decode cX7_odds 73 = .ok (.iload_n 1, 1) := by decide +kernel
theorem dX7_odds_74 : decode cX7_odds 74 = .ok (.if_icmp .ge 28, 3) := by decide +kernel
theorem dX7_odds_77 : decode cX7_odds 77 = .ok (.lload 6, 2) := by decide +kernel
theorem dX7_odds_79 : decode cX7_odds 79 = .ok (.iload_n 2, 1) := by decide +kernel
theorem dX7_odds_80 : decode cX7_odds 80 = .ok (.ifCond .ne 7, 3) := by decide +kernel
theorem dX7_odds_83 : decode cX7_odds 83 = .ok (.iload_n 3, 1) := by decide +kernel
theorem dX7_odds_84 : decode cX7_odds 84 = .ok (.goto 5, 3) := by decide +kernel
theorem dX7_odds_87 : decode cX7_odds 87 = .ok (.bipush 36, 2) := by decide +kernel
theorem dX7_odds_89 : decode cX7_odds 89 = .ok (.iload 4, 2) := by decide +kernel
theorem dX7_odds_91 : decode cX7_odds 91 = .ok (.idiv, 1) := by decide +kernel
theorem dX7_odds_92 : decode cX7_odds 92 = .ok (.i2l, 1) := by decide +kernel
theorem dX7_odds_93 : decode cX7_odds 93 = .ok (.lmul, 1) := by decide +kernel
theorem dX7_odds_94 : decode cX7_odds 94 = .ok (.lstore 6, 2) := by decide +kernel
theorem dX7_odds_96 : decode cX7_odds 96 = .ok (.iinc 8 1, 3) := by decide +kernel
theorem dX7_odds_99 : decode cX7_odds 99 = .ok (.goto (-28), 3) := by decide +kernel
theorem dX7_odds_102 : decode cX7_odds 102 = .ok (.lload 6, 2) := by decide +kernel
theorem dX7_odds_104 : decode cX7_odds 104 = .ok (.lreturn, 1) := by decide +kernel
set_option maxRecDepth 20000 in
theorem ggX7_seed_X7_become : GoodIn wsX7_seed wsX7_become := goodIn_r _ [5, 6, 7, 8, 9, 10, 11, 12, 13, 14, 15, 16, 17, 18, 19, 20, 21, 22, 23, 24, 25, 26, 27, 28, 29, 30, 31, 32, 33] (by decide +kernel) (by decide +kernel)
set_option maxRecDepth 20000 in
theorem gX7_seed_X7_become : GoodIn wsX7_seed (wsV RX7 113 RX7 yX7_become wsX7_become) := goodIn_app (goodIn_of _ (by decide +kernel)) ggX7_seed_X7_become
theorem dX7_seed_0 : decode cX7_seed 0 = .ok (.aload_n 0, 1) := by decide +kernel
theorem dX7_seed_1 : decode cX7_seed 1 = .ok (.iconst 2, 1) := by decide +kernel
theorem dX7_seed_2 : decode cX7_seed 2 = .ok (.iload_n 1, 1) := by decide +kernel
theorem dX7_seed_3 : decode cX7_seed 3 = .ok (.invokevirtual 113, 3) := by decide +kernel
theorem dX7_seed_6 : decode cX7_seed 6 = .ok (.ireturn, 1) := by decide +kernel
set_option maxRecDepth 20000 in
theorem ggX7_feed_X7_within : GoodIn wsX7_feed wsX7_within := goodIn_r _ [8] (by decide +kernel) (by decide +kernel)
set_option maxRecDepth 20000 in
theorem gX7_feed_X7_within : GoodIn wsX7_feed (va_wsS RX7 105 yX7_within wsX7_within) := goodIn_app (goodIn_of _ (by decide +kernel)) ggX7_feed_X7_within
set_option maxRecDepth 20000 in
theorem ggX7_feed_X7_finding : GoodIn wsX7_feed wsX7_finding := goodIn_r _ [12, 13, 1, 14, 15, 16, 17, 18, 19, 20, 21, 22, 23, 24, 25, 26, 27, 28, 29, 30, 31, 32, 33, 34, 35, 36, 37, 38, 39, 40] (by decide +kernel) (by decide +kernel)
set_option maxRecDepth 20000 in
theorem gX7_feed_X7_finding : GoodIn wsX7_feed (wsV RX7 101 RX7 yX7_finding wsX7_finding) := goodIn_app (goodIn_of _ (by decide +kernel)) ggX7_feed_X7_finding
theorem dX7_feed_0 : decode cX7_feed 0 = .ok (.iload_n 2, 1) := by decide +kernel
theorem dX7_feed_1 : decode cX7_feed 1 = .ok (.iconst 1, 1) := by decide +kernel
theorem dX7_feed_2 : decode cX7_feed 2 = .ok (.iconst 4, 1) := by decide +kernel
theorem dX7_feed_3 : decode cX7_feed 3 = .ok (.invokestatic 105, 3) := by decide +kernel
theorem dX7_feed_6 : decode cX7_feed 6 = .ok (.ifCond .ne 10, 3) := by decide +kernel
theorem dX7_feed_9 : decode cX7_feed 9 = .ok (.aload_n 0, 1) := by decide +kernel
theorem dX7_feed_10 : decode cX7_feed 10 = .ok (.ldc 95, 2) := by decide +kernel
theorem dX7_feed_12 : decode cX7_feed 12 = .ok (.invokevirtual 101, 3) := by decide +kernel
theorem dX7_feed_15 : decode cX7_feed 15 = .ok (.ireturn, 1) := by decide +kernel
theorem dX7_feed_16 : decode cX7_feed 16 = .ok (.aload_n 0, 1) := by decide +kernel
theorem dX7_feed_17 : decode cX7_feed 17 = .ok (.getfield 293, 3) := by decide +kernel
theorem dX7_feed_20 : decode cX7_feed 20 = .ok (.iload_n 2, 1) := by decide +kernel
theorem dX7_feed_21 : decode cX7_feed 21 = .ok (.iadd, 1) := by decide +kernel
theorem dX7_feed_22 : decode cX7_feed 22 = .ok (.bipush 120, 2) := by decide +kernel
theorem dX7_feed_24 : decode cX7_feed 24 = .ok (.if_icmp .le 10, 3) := by decide +kernel
theorem dX7_feed_27 : decode cX7_feed 27 = .ok (.aload_n 0, 1) := by decide +kernel
theorem dX7_feed_28 : decode cX7_feed 28 = .ok (.ldc 151, 2) := by decide +kernel
theorem dX7_feed_30 : decode cX7_feed 30 = .ok (.invokevirtual 101, 3) := by decide +kernel
theorem dX7_feed_33 : decode cX7_feed 33 = .ok (.ireturn, 1) := by decide +kernel
theorem dX7_feed_34 : decode cX7_feed 34 = .ok (.iload_n 2, 1) := by decide +kernel
theorem dX7_feed_35 : decode cX7_feed 35 = .ok (.iconst 1, 1) := by decide +kernel
theorem dX7_feed_36 : decode cX7_feed 36 = .ok (.isub, 1) := by decide +kernel
theorem dX7_feed_37 : decode cX7_feed 37 = .ok (.istore_n 3, 1) := by decide +kernel
theorem dX7_feed_38 : decode cX7_feed 38 = .ok (.iload_n 3, 1) := by decide +kernel
theorem dX7_feed_39 : decode cX7_feed 39 = .ok (.ifCond .lt 38, 3) := by decide +kernel
theorem dX7_feed_42 : decode cX7_feed 42 = .ok (.aload_n 0, 1) := by decide +kernel
theorem dX7_feed_43 : decode cX7_feed 43 = .ok (.getfield 34, 3) := by decide +kernel
theorem dX7_feed_46 : decode cX7_feed 46 = .ok (.aload_n 0, 1) := by decide +kernel
theorem dX7_feed_47 : decode cX7_feed 47 = .ok (.getfield 293, 3) := by decide +kernel
theorem dX7_feed_50 : decode cX7_feed 50 = .ok (.iload_n 1, 1) := by decide +kernel
theorem dX7_feed_51 : decode cX7_feed 51 = .ok (.bipush 8, 2) := by decide +kernel
theorem dX7_feed_53 : decode cX7_feed 53 = .ok (.iload_n 3, 1) := by decide +kernel
theorem dX7_feed_54 : decode cX7_feed 54 = .ok (.imul, 1) := by decide +kernel
theorem dX7_feed_55 : decode cX7_feed 55 = .ok (.ishr, 1) := by decide +kernel
theorem dX7_feed_56 : decode cX7_feed 56 = .ok (.sipush 255, 3) := by decide +kernel
theorem dX7_feed_59 : decode cX7_feed 59 = .ok (.iand, 1) := by decide +kernel
theorem dX7_feed_60 : decode cX7_feed 60 = .ok (.iastore, 1) := by decide +kernel
theorem dX7_feed_61 : decode cX7_feed 61 = .ok (.aload_n 0, 1) := by decide +kernel
theorem dX7_feed_62 : decode cX7_feed 62 = .ok (.dup, 1) := by decide +kernel
theorem dX7_feed_63 : decode cX7_feed 63 = .ok (.getfield 293, 3) := by decide +kernel
theorem dX7_feed_66 : decode cX7_feed 66 = .ok (.iconst 1, 1) := by decide +kernel
theorem dX7_feed_67 : decode cX7_feed 67 = .ok (.iadd, 1) := by decide +kernel
theorem dX7_feed_68 : decode cX7_feed 68 = .ok (.putfield 293, 3) := by decide +kernel
theorem dX7_feed_71 : decode cX7_feed 71 = .ok (.iinc 3 (-1), 3) := by decide +kernel
theorem dX7_feed_74 : decode cX7_feed 74 = .ok (.goto (-36), 3) := by decide +kernel
theorem dX7_feed_77 : decode cX7_feed 77 = .ok (.aload_n 0, 1) := by decide +kernel
theorem dX7_feed_78 : decode cX7_feed 78 = .ok (.getfield 293, 3) := by decide +kernel
theorem dX7_feed_81 : decode cX7_feed 81 = .ok (.ireturn, 1) := by decide +kernel
theorem dX7_wipe_0 : decode cX7_wipe 0 = .ok (.aload_n 0, 1) := by decide +kernel
theorem dX7_wipe_1 : decode cX7_wipe 1 = .ok (.getfield 293, 3) := by decide +kernel
theorem dX7_wipe_4 : decode cX7_wipe 4 = .ok (.istore_n 1, 1) := by decide +kernel
theorem dX7_wipe_5 : decode cX7_wipe 5 = .ok (.aload_n 0, 1) := by decide +kernel
theorem dX7_wipe_6 : decode cX7_wipe 6 = .ok (.iconst 0, 1) := by decide +kernel
theorem dX7_wipe_7 : decode cX7_wipe 7 = .ok (.putfield 293, 3) := by decide +kernel
theorem dX7_wipe_10 : decode cX7_wipe 10 = .ok (.iload_n 1, 1) := by decide +kernel
theorem dX7_wipe_11 : decode cX7_wipe 11 = .ok (.ireturn, 1) := by decide +kernel
theorem dX7_byteAt_0 : decode cX7_byteAt 0 = .ok (.iload_n 1, 1) := by decide +kernel
theorem dX7_byteAt_1 : decode cX7_byteAt 1 = .ok (.aload_n 0, 1) := by decide +kernel
theorem dX7_byteAt_2 : decode cX7_byteAt 2 = .ok (.getfield 293, 3) := by decide +kernel
theorem dX7_byteAt_5 : decode cX7_byteAt 5 = .ok (.if_icmp .ge 12, 3) := by decide +kernel
theorem dX7_byteAt_8 : decode cX7_byteAt 8 = .ok (.aload_n 0, 1) := by decide +kernel
theorem dX7_byteAt_9 : decode cX7_byteAt 9 = .ok (.getfield 34, 3) := by decide +kernel
theorem dX7_byteAt_12 : decode cX7_byteAt 12 = .ok (.iload_n 1, 1) := by decide +kernel
theorem dX7_byteAt_13 : decode cX7_byteAt 13 = .ok (.iaload, 1) := by decide +kernel
theorem dX7_byteAt_14 : decode cX7_byteAt 14 = .ok (.goto 4, 3) := by decide +kernel
theorem dX7_byteAt_17 : decode cX7_byteAt 17 = .ok (.iconst (-1), 1) := by decide +kernel
theorem dX7_byteAt_18 : decode cX7_byteAt 18 = .ok (.ireturn, 1) := by decide +kernel
set_option maxRecDepth 20000 in
theorem ggX7_next_X7_byteAt : GoodIn wsX7_next wsX7_byteAt := goodIn_r _ [13, 14, 15, 19, 20, 21, 22, 23, 24, 25, 26, 27, 28, 29, 30, 31, 32, 33, 34, 35, 36, 37, 38, 39, 40, 41, 42, 43, 44, 45] (by decide +kernel) (by decide +kernel)
set_option maxRecDepth 20000 in
theorem gX7_next_X7_byteAt : GoodIn wsX7_next (wsV RX7 303 RX7 yX7_byteAt wsX7_byteAt) := goodIn_app (goodIn_of _ (by decide +kernel)) ggX7_next_X7_byteAt
set_option maxRecDepth 20000 in
theorem ggX7_next_X7_within : GoodIn wsX7_next wsX7_within := goodIn_r _ [18] (by decide +kernel) (by decide +kernel)
set_option maxRecDepth 20000 in
theorem gX7_next_X7_within : GoodIn wsX7_next (va_wsS RX7 105 yX7_within wsX7_within) := goodIn_app (goodIn_of _ (by decide +kernel)) ggX7_next_X7_within
theorem dX7_next_0 : decode cX7_next 0 = .ok (.aload_n 0, 1) := by decide +kernel
theorem dX7_next_1 : decode cX7_next 1 = .ok (.aload_n 0, 1) := by decide +kernel
theorem dX7_next_2 : decode cX7_next 2 = .ok (.getfield 297, 3) := by decide +kernel
theorem dX7_next_5 : decode cX7_next 5 = .ok (.putfield 300, 3) := by decide +kernel
theorem dX7_next_8 : decode cX7_next 8 = .ok (.aload_n 0, 1) := by decide +kernel
theorem dX7_next_9 : decode cX7_next 9 = .ok (.aload_n 0, 1) := by decide +kernel
theorem dX7_next_10 : decode cX7_next 10 = .ok (.getfield 300, 3) := by decide +kernel
theorem dX7_next_13 : decode cX7_next 13 = .ok (.invokevirtual 303, 3) := by decide +kernel
theorem dX7_next_16 : decode cX7_next 16 = .ok (.bipush 32, 2) := by decide +kernel
theorem dX7_next_18 : decode cX7_next 18 = .ok (.if_icmp .ne 16, 3) := by decide +kernel
theorem dX7_next_21 : decode cX7_next 21 = .ok (.aload_n 0, 1) := by decide +kernel
theorem dX7_next_22 : decode cX7_next 22 = .ok (.dup, 1) := by decide +kernel
theorem dX7_next_23 : decode cX7_next 23 = .ok (.getfield 300, 3) := by decide +kernel
theorem dX7_next_26 : decode cX7_next 26 = .ok (.iconst 1, 1) := by decide +kernel
theorem dX7_next_27 : decode cX7_next 27 = .ok (.iadd, 1) := by decide +kernel
theorem dX7_next_28 : decode cX7_next 28 = .ok (.putfield 300, 3) := by decide +kernel
theorem dX7_next_31 : decode cX7_next 31 = .ok (.goto (-23), 3) := by decide +kernel
theorem dX7_next_34 : decode cX7_next 34 = .ok (.aload_n 0, 1) := by decide +kernel
theorem dX7_next_35 : decode cX7_next 35 = .ok (.aload_n 0, 1) := by decide +kernel
theorem dX7_next_36 : decode cX7_next 36 = .ok (.getfield 300, 3) := by decide +kernel
theorem dX7_next_39 : decode cX7_next 39 = .ok (.invokevirtual 303, 3) := by decide +kernel
theorem dX7_next_42 : decode cX7_next 42 = .ok (.istore_n 1, 1) := by decide +kernel
theorem dX7_next_43 : decode cX7_next 43 = .ok (.aload_n 0, 1) := by decide +kernel
theorem dX7_next_44 : decode cX7_next 44 = .ok (.aload_n 0, 1) := by decide +kernel
theorem dX7_next_45 : decode cX7_next 45 = .ok (.getfield 300, 3) := by decide +kernel
theorem dX7_next_48 : decode cX7_next 48 = .ok (.putfield 297, 3) := by decide +kernel
theorem dX7_next_51 : decode cX7_next 51 = .ok (.aload_n 0, 1) := by decide +kernel
theorem dX7_next_52 : decode cX7_next 52 = .ok (.iconst 0, 1) := by decide +kernel
theorem dX7_next_53 : decode cX7_next 53 = .ok (.putfield 306, 3) := by decide +kernel
theorem dX7_next_56 : decode cX7_next 56 = .ok (.iload_n 1, 1) := by decide +kernel
theorem dX7_next_57 : decode cX7_next 57 = .ok (.ifCond .ge 11, 3) := by decide +kernel
theorem dX7_next_60 : decode cX7_next 60 = .ok (.aload_n 0, 1) := by decide +kernel
theorem dX7_next_61 : decode cX7_next 61 = .ok (.iconst 0, 1) := by decide +kernel
theorem dX7_next_62 : decode cX7_next 62 = .ok (.putfield 309, 3) := by decide +kernel
theorem dX7_next_65 : decode cX7_next 65 = .ok (.goto 141, 3) := by decide +kernel
theorem dX7_next_68 : decode cX7_next 68 = .ok (.iload_n 1, 1) := by decide +kernel
theorem dX7_next_69 : decode cX7_next 69 = .ok (.bipush 97, 2) := by decide +kernel
theorem dX7_next_71 : decode cX7_next 71 = .ok (.bipush 122, 2) := by decide +kernel
theorem dX7_next_73 : decode cX7_next 73 = .ok (.invokestatic 105, 3) := by decide +kernel
theorem dX7_next_76 : decode cX7_next 76 = .ok (.ifCond .eq 39, 3) := by decide +kernel
theorem dX7_next_79 : decode cX7_next 79 = .ok (.aload_n 0, 1) := by decide +kernel
theorem dX7_next_80 : decode cX7_next 80 = .ok (.iconst 1, 1) := by decide +kernel
theorem dX7_next_81 : decode cX7_next 81 = .ok (.putfield 309, 3) := by decide +kernel
theorem dX7_next_84 : decode cX7_next 84 = .ok (.aload_n 0, 1) := by decide +kernel
theorem dX7_next_85 : decode cX7_next 85 = .ok (.aload_n 0, 1) := by decide +kernel
theorem dX7_next_86 : decode cX7_next 86 = .ok (.getfield 297, 3) := by decide +kernel
theorem dX7_next_89 : decode cX7_next 89 = .ok (.invokevirtual 303, 3) := by decide +kernel
theorem dX7_next_92 : decode cX7_next 92 = .ok (.bipush 97, 2) := by decide +kernel
theorem dX7_next_94 : decode cX7_next 94 = .ok (.bipush 122, 2) := by decide +kernel
theorem dX7_next_96 : decode cX7_next 96 = .ok (.invokestatic 105, 3) := by decide +kernel
theorem dX7_next_99 : decode cX7_next 99 = .ok (.ifCond .eq 107, 3) := by decide +kernel
theorem dX7_next_102 : decode cX7_next 102 = .ok (.aload_n 0, 1) := by decide +kernel
theorem dX7_next_103 : decode cX7_next 103 = .ok (.dup, 1) := by decide +kernel
theorem dX7_next_104 : decode cX7_next 104 = .ok (.getfield 297, 3) := by decide +kernel
theorem dX7_next_107 : decode cX7_next 107 = .ok (.iconst 1, 1) := by decide +kernel
theorem dX7_next_108 : decode cX7_next 108 = .ok (.iadd, 1) := by decide +kernel
theorem dX7_next_109 : decode cX7_next 109 = .ok (.putfield 297, 3) := by decide +kernel
theorem dX7_next_112 : decode cX7_next 112 = .ok (.goto (-28), 3) := by decide +kernel
theorem dX7_next_115 : decode cX7_next 115 = .ok (.iload_n 1, 1) := by decide +kernel
theorem dX7_next_116 : decode cX7_next 116 = .ok (.bipush 48, 2) := by decide +kernel
theorem dX7_next_118 : decode cX7_next 118 = .ok (.bipush 57, 2) := by decide +kernel
theorem dX7_next_120 : decode cX7_next 120 = .ok (.invokestatic 105, 3) := by decide +kernel
theorem dX7_next_123 : decode cX7_next 123 = .ok (.ifCond .eq 68, 3) := by decide +kernel
theorem dX7_next_126 : decode cX7_next 126 = .ok (.aload_n 0, 1) := by decide +kernel
theorem dX7_next_127 : decode cX7_next 127 = .ok (.iconst 2, 1) := by decide +kernel
theorem dX7_next_128 : decode cX7_next 128 = .ok (.putfield 309, 3) := by decide +kernel
theorem dX7_next_131 : decode cX7_next 131 = .ok (.aload_n 0, 1) := by decide +kernel
theorem dX7_next_132 : decode cX7_next 132 = .ok (.aload_n 0, 1) := by decide +kernel
theorem dX7_next_133 : decode cX7_next 133 = .ok (.getfield 297, 3) := by decide +kernel
theorem dX7_next_136 : decode cX7_next 136 = .ok (.invokevirtual 303, 3) := by decide +kernel
theorem dX7_next_139 : decode cX7_next 139 = .ok (.bipush 48, 2) := by decide +kernel
theorem dX7_next_141 : decode cX7_next 141 = .ok (.bipush 57, 2) := by decide +kernel
theorem dX7_next_143 : decode cX7_next 143 = .ok (.invokestatic 105, 3) := by decide +kernel
theorem dX7_next_146 : decode cX7_next 146 = .ok (.ifCond .eq 60, 3) := by decide +kernel
theorem dX7_next_149 : decode cX7_next 149 = .ok (.aload_n 0, 1) := by decide +kernel
theorem dX7_next_150 : decode cX7_next 150 = .ok (.sipush 1000, 3) := by decide +kernel
theorem dX7_next_153 : decode cX7_next 153 = .ok (.bipush 10, 2) := by decide +kernel
theorem dX7_next_155 : decode cX7_next 155 = .ok (.aload_n 0, 1) := by decide +kernel
theorem dX7_next_156 : decode cX7_next 156 = .ok (.getfield 306, 3) := by decide +kernel
theorem dX7_next_159 : decode cX7_next 159 = .ok (.imul, 1) := by decide +kernel
theorem dX7_next_160 : decode cX7_next 160 = .ok (.aload_n 0, 1) := by decide +kernel
theorem dX7_next_161 : decode cX7_next 161 = .ok (.aload_n 0, 1) := by decide +kernel
theorem dX7_next_162 : decode cX7_next 162 = .ok (.getfield 297, 3) := by decide +kernel
theorem dX7_next_165 : decode cX7_next 165 = .ok (.invokevirtual 303, 3) := by decide +kernel
theorem dX7_next_168 : decode cX7_next 168 = .ok (.iadd, 1) := by decide +kernel
theorem dX7_next_169 : decode cX7_next 169 = .ok (.bipush 48, 2) := by decide +kernel
theorem dX7_next_171 : decode cX7_next 171 = .ok (.isub, 1) := by decide +kernel
theorem dX7_next_172 : decode cX7_next 172 = .ok (.invokestatic 270, 3) := by decide +kernel
theorem dX7_next_175 : decode cX7_next 175 = .ok (.putfield 306, 3) := by decide +kernel
theorem dX7_next_178 : decode cX7_next 178 = .ok (.aload_n 0, 1) := by decide +kernel
theorem dX7_next_179 : decode cX7_next 179 = .ok (.dup, 1) := by decide +kernel
theorem dX7_next_180 : decode cX7_next 180 = .ok (.getfield 297, 3) := by decide +kernel
theorem dX7_next_183 : decode cX7_next 183 = .ok (.iconst 1, 1) := by decide +kernel
theorem dX7_next_184 : decode cX7_next 184 = .ok (.iadd, 1) := by decide +kernel
theorem dX7_next_185 : decode cX7_next 185 = .ok (.putfield 297, 3) := by decide +kernel
theorem dX7_next_188 : decode cX7_next 188 = .ok (.goto (-57), 3) := by decide +kernel
theorem dX7_next_191 : decode cX7_next 191 = .ok (.aload_n 0, 1) := by decide +kernel
theorem dX7_next_192 : decode cX7_next 192 = .ok (.iconst 3, 1) := by decide +kernel
theorem dX7_next_193 : decode cX7_next 193 = .ok (.putfield 309, 3) := by decide +kernel
theorem dX7_next_196 : decode cX7_next 196 = .ok (.aload_n 0, 1) := by decide +kernel
theorem dX7_next_197 : decode cX7_next 197 = .ok (.dup, 1) := by decide +kernel
theorem dX7_next_198 : decode cX7_next 198 = .ok (.getfield 297, 3) := by decide +kernel
theorem dX7_next_201 : decode cX7_next 201 = .ok (.iconst 1, 1) := by decide +kernel
theorem dX7_next_202 : decode cX7_next 202 = .ok (.iadd, 1) := by decide +kernel
theorem dX7_next_203 : decode cX7_next 203 = .ok (.putfield 297, 3) := by decide +kernel
theorem dX7_next_206 : decode cX7_next 206 = .ok (.return_, 1) := by decide +kernel
set_option maxRecDepth 20000 in
theorem ggX7_isWord_J0_length_8abf5 : GoodIn wsX7_isWord wsJ0_length_8abf5 := goodIn_r _ [9, 10, 11, 12, 13, 8, 14, 15, 16] (by decide +kernel) (by decide +kernel)
set_option maxRecDepth 20000 in
theorem gX7_isWord_J0_length_8abf5 : GoodIn wsX7_isWord (wsV RX7 312 RJ0 yJ0_length_8abf5 wsJ0_length_8abf5) := goodIn_app (goodIn_of _ (by decide +kernel)) ggX7_isWord_J0_length_8abf5
set_option maxRecDepth 20000 in
theorem ggX7_isWord_J0_charAt_5068e : GoodIn wsX7_isWord wsJ0_charAt_5068e := goodIn_r _ [20, 10, 21, 22, 23, 8, 24, 15, 16, 25, 26, 27, 28, 29, 30, 31, 32, 33, 34, 35, 36, 37, 38, 39, 40, 41, 42, 43, 44, 45, 46, 47, 48, 49, 50, 51, 52, 53] (by decide +kernel) (by decide +kernel)
set_option maxRecDepth 20000 in
theorem gX7_isWord_J0_charAt_5068e : GoodIn wsX7_isWord (wsV RX7 315 RJ0 yJ0_charAt_5068e wsJ0_charAt_5068e) := goodIn_app (goodIn_of _ (by decide +kernel)) ggX7_isWord_J0_charAt_5068e
theorem dX7_isWord_0 : decode cX7_isWord 0 = .ok (.aload_n 0, 1) := by decide +kernel
theorem dX7_isWord_1 : decode cX7_isWord 1 = .ok (.getfield 309, 3) := by decide +kernel
theorem dX7_isWord_4 : decode cX7_isWord 4 = .ok (.iconst 1, 1) := by decide +kernel
theorem dX7_isWord_5 : decode cX7_isWord 5 = .ok (.if_icmp .ne 23, 3) := by decide +kernel
theorem dX7_isWord_8 : decode cX7_isWord 8 = .ok (.aload_n 0, 1) := by decide +kernel
theorem dX7_isWord_9 : decode cX7_isWord 9 = .ok (.getfield 297, 3) := by decide +kernel
theorem dX7_isWord_12 : decode cX7_isWord 12 = .ok (.aload_n 0, 1) := by decide +kernel
theorem dX7_isWord_13 : decode cX7_isWord 13 = .ok (.getfield 300, 3) := by decide +kernel
theorem dX7_isWord_16 : decode cX7_isWord 16 = .ok (.isub, 1) := by decide +kernel
theorem dX7_isWord_17 : decode cX7_isWord 17 = .ok (.aload_n 1, 1) := by decide +kernel
theorem dX7_isWord_18 : decode cX7_isWord 18 = .ok (.invokevirtual 312, 3) := by decide +kernel
theorem dX7_isWord_21 : decode cX7_isWord 21 = .ok (.if_icmp .ne 7, 3) := by decide +kernel
theorem dX7_isWord_24 : decode cX7_isWord 24 = .ok (.iconst 1, 1) := by decide +kernel
theorem dX7_isWord_25 : decode cX7_isWord 25 = .ok (.goto 4, 3) := by decide +kernel
theorem dX7_isWord_28 : decode cX7_isWord 28 = .ok (.iconst 0, 1) := by decide +kernel
theorem dX7_isWord_29 : decode cX7_isWord 29 = .ok (.istore_n 2, 1) := by decide +kernel
theorem dX7_isWord_30 : decode cX7_isWord 30 = .ok (.iconst 0, 1) := by decide +kernel
theorem dX7_isWord_31 : decode cX7_isWord 31 = .ok (.istore_n 3, 1) := by decide +kernel
theorem dX7_isWord_32 : decode cX7_isWord 32 = .ok (.iload_n 3, 1) := by decide +kernel
theorem dX7_isWord_33 : decode cX7_isWord 33 = .ok (.aload_n 1, 1) := by decide +kernel
theorem dX7_isWord_34 : decode cX7_isWord 34 = .ok (.invokevirtual 312, 3) := by decide +kernel
theorem dX7_isWord_37 : decode cX7_isWord 37 = .ok (.if_icmp .ge 38, 3) := by decide +kernel
theorem dX7_isWord_40 : decode cX7_isWord 40 = .ok (.iload_n 2, 1) := by decide +kernel
theorem dX7_isWord_41 : decode cX7_isWord 41 = .ok (.ifCond .eq 34, 3) := by decide +kernel
theorem dX7_isWord_44 : decode cX7_isWord 44 = .ok (.aload_n 0, 1) := by decide +kernel
theorem dX7_isWord_45 : decode cX7_isWord 45 = .ok (.getfield 34, 3) := by decide +kernel
theorem dX7_isWord_48 : decode cX7_isWord 48 = .ok (.aload_n 0, 1) := by decide +kernel
theorem dX7_isWord_49 : decode cX7_isWord 49 = .ok (.getfield 300, 3) := by decide +kernel
theorem dX7_isWord_52 : decode cX7_isWord 52 = .ok (.iload_n 3, 1) := by decide +kernel
theorem dX7_isWord_53 : decode cX7_isWord 53 = .ok (.iadd, 1) := by decide +kernel
theorem dX7_isWord_54 : decode cX7_isWord 54 = .ok (.iaload, 1) := by decide +kernel
theorem dX7_isWord_55 : decode cX7_isWord 55 = .ok (.aload_n 1, 1) := by decide +kernel
theorem dX7_isWord_56 : decode cX7_isWord 56 = .ok (.iload_n 3, 1) := by decide +kernel
theorem dX7_isWord_57 : decode cX7_isWord 57 = .ok (.invokevirtual 315, 3) := by decide +kernel
theorem dX7_isWord_60 : decode cX7_isWord 60 = .ok (.if_icmp .ne 7, 3) := by decide +kernel
theorem dX7_isWord_63 : decode cX7_isWord 63 = .ok (.iconst 1, 1) := by decide +kernel
theorem dX7_isWord_64 : decode cX7_isWord 64 = .ok (.goto 4, 3) := by decide +kernel
theorem dX7_isWord_67 : decode cX7_isWord 67 = .ok (.iconst 0, 1) := by decide +kernel
theorem dX7_isWord_68 : decode cX7_isWord 68 = .ok (.istore_n 2, 1) := by decide +kernel
theorem dX7_isWord_69 : decode cX7_isWord 69 = .ok (.iinc 3 1, 3) := by decide +kernel
theorem dX7_isWord_72 : decode cX7_isWord 72 = .ok (.goto (-40), 3) := by decide +kernel
theorem dX7_isWord_75 : decode cX7_isWord 75 = .ok (.iload_n 2, 1) := by decide +kernel
theorem dX7_isWord_76 : decode cX7_isWord 76 = .ok (.ireturn, 1) := by decide +kernel
set_option maxRecDepth 20000 in
theorem ggX7_must_X7_next : GoodIn wsX7_must wsX7_next := goodIn_r _ [6, 7, 8, 9, 10, 11, 12, 13, 14, 15, 16, 17, 5, 18, 19, 20, 21, 22, 23, 24, 25, 26, 27, 28, 29, 30, 31, 32, 33, 34, 35, 36, 37, 38, 39, 40, 41, 42, 43, 44, 45, 46, 47, 48, 49, 50] (by decide +kernel) (by decide +kernel)
set_option maxRecDepth 20000 in
theorem gX7_must_X7_next : GoodIn wsX7_must (wsV RX7 323 RX7 yX7_next wsX7_next) := goodIn_app (goodIn_of _ (by decide +kernel)) ggX7_must_X7_next
theorem dX7_must_0 : decode cX7_must 0 = .ok (.aload_n 0, 1) := by decide +kernel
theorem dX7_must_1 : decode cX7_must 1 = .ok (.aload_n 0, 1) := by decide +kernel
theorem dX7_must_2 : decode cX7_must 2 = .ok (.getfield 319, 3) := by decide +kernel
theorem dX7_must_5 : decode cX7_must 5 = .ok (.ifCond .ne 7, 3) := by decide +kernel
theorem dX7_must_8 : decode cX7_must 8 = .ok (.iload_n 1, 1) := by decide +kernel
theorem dX7_must_9 : decode cX7_must 9 = .ok (.ifCond .ne 7, 3) := by decide +kernel
theorem dX7_must_12 : decode cX7_must 12 = .ok (.iconst 1, 1) := by decide +kernel
theorem dX7_must_13 : decode cX7_must 13 = .ok (.goto 4, 3) := by decide +kernel
theorem dX7_must_16 : decode cX7_must 16 = .ok (.iconst 0, 1) := by decide +kernel
theorem dX7_must_17 : decode cX7_must 17 = .ok (.putfield 319, 3) := by decide +kernel
theorem dX7_must_20 : decode cX7_must 20 = .ok (.aload_n 0, 1) := by decide +kernel
theorem dX7_must_21 : decode cX7_must 21 = .ok (.getfield 319, 3) := by decide +kernel
theorem dX7_must_24 : decode cX7_must 24 = .ok (.ifCond .ne 7, 3) := by decide +kernel
theorem dX7_must_27 : decode cX7_must 27 = .ok (.aload_n 0, 1) := by decide +kernel
theorem dX7_must_28 : decode cX7_must 28 = .ok (.invokevirtual 323, 3) := by decide +kernel
theorem dX7_must_31 : decode cX7_must 31 = .ok (.return_, 1) := by decide +kernel
set_option maxRecDepth 20000 in
theorem ggX7_number_X7_within : GoodIn wsX7_number wsX7_within := goodIn_r _ [6] (by decide +kernel) (by decide +kernel)
set_option maxRecDepth 20000 in
theorem gX7_number_X7_within : GoodIn wsX7_number (va_wsS RX7 105 yX7_within wsX7_within) := goodIn_app (goodIn_of _ (by decide +kernel)) ggX7_number_X7_within
set_option maxRecDepth 20000 in
theorem ggX7_number_X7_must : GoodIn wsX7_number wsX7_must := goodIn_r _ [10, 11, 12, 13, 14, 5, 15, 16, 17, 1, 2, 18, 19, 20, 21, 22, 23, 24, 25, 26, 27, 3, 4, 6, 28, 29, 30, 31, 32, 33, 34, 35, 36, 37, 38, 39, 40, 41, 42, 43, 44, 45, 46, 47, 48, 49, 50, 51, 52, 53, 54] (by decide +kernel) (by decide +kernel)
set_option maxRecDepth 20000 in
theorem gX7_number_X7_must : GoodIn wsX7_number (wsV RX7 326 RX7 yX7_must wsX7_must) := goodIn_app (goodIn_of _ (by decide +kernel)) ggX7_number_X7_must
theorem dX7_number_0 : decode cX7_number 0 = .ok (.aload_n 0, 1) := by decide +kernel
theorem dX7_number_1 : decode cX7_number 1 = .ok (.getfield 306, 3) := by decide +kernel
theorem dX7_number_4 : decode cX7_number 4 = .ok (.istore_n 3, 1) := by decide +kernel
theorem dX7_number_5 : decode cX7_number 5 = .ok (.aload_n 0, 1) := by decide +kernel
theorem dX7_number_6 : decode cX7_number 6 = .ok (.aload_n 0, 1) := by decide +kernel
theorem dX7_number_7 : decode cX7_number 7 = .ok (.getfield 309, 3) := by decide +kernel
theorem dX7_number_10 : decode cX7_number 10 = .ok (.iconst 2, 1) := by decide +kernel
theorem dX7_number_11 : decode cX7_number 11 = .ok (.if_icmp .ne 16, 3) := by decide +kernel
theorem dX7_number_14 : decode cX7_number 14 = .ok (.iload_n 3, 1) := by decide +kernel
theorem dX7_number_15 : decode cX7_number 15 = .ok (.iload_n 1, 1) := by decide +kernel
theorem dX7_number_16 : decode cX7_number 16 = .ok (.iload_n 2, 1) := by decide +kernel
theorem dX7_number_17 : decode cX7_number 17 = .ok (.invokestatic 105, 3) := by decide +kernel
theorem dX7_number_20 : decode cX7_number 20 = .ok (.ifCond .eq 7, 3) := by decide +kernel
theorem dX7_number_23 : decode cX7_number 23 = .ok (.iconst 1, 1) := by decide +kernel
theorem dX7_number_24 : decode cX7_number 24 = .ok (.goto 4, 3) := by decide +kernel
theorem dX7_number_27 : decode cX7_number 27 = .ok (.iconst 0, 1) := by decide +kernel
theorem dX7_number_28 : decode cX7_number 28 = .ok (.invokevirtual 326, 3) := by decide +kernel
theorem dX7_number_31 : decode cX7_number 31 = .ok (.iload_n 3, 1) := by decide +kernel
theorem dX7_number_32 : decode cX7_number 32 = .ok (.ireturn, 1) := by decide +kernel
theorem dX7_item_0 : decode cX7_item 0 = .ok (.iconst 4, 1) := by decide +kernel
theorem dX7_item_1 : decode cX7_item 1 = .ok (.aload_n 0, 1) := by decide +kernel
theorem dX7_item_2 : decode cX7_item 2 = .ok (.getfield 330, 3) := by decide +kernel
theorem dX7_item_5 : decode cX7_item 5 = .ok (.imul, 1) := by decide +kernel
theorem dX7_item_6 : decode cX7_item 6 = .ok (.istore 5, 2) := by decide +kernel
theorem dX7_item_8 : decode cX7_item 8 = .ok (.aload_n 0, 1) := by decide +kernel
theorem dX7_item_9 : decode cX7_item 9 = .ok (.getfield 77, 3) := by decide +kernel
theorem dX7_item_12 : decode cX7_item 12 = .ok (.iload 5, 2) := by decide +kernel
theorem dX7_item_14 : decode cX7_item 14 = .ok (.iload_n 1, 1) := by decide +kernel
theorem dX7_item_15 : decode cX7_item 15 = .ok (.iastore, 1) := by decide +kernel
theorem dX7_item_16 : decode cX7_item 16 = .ok (.aload_n 0, 1) := by decide +kernel
theorem dX7_item_17 : decode cX7_item 17 = .ok (.getfield 77, 3) := by decide +kernel
theorem dX7_item_20 : decode cX7_item 20 = .ok (.iload 5, 2) := by decide +kernel
theorem dX7_item_22 : decode cX7_item 22 = .ok (.iconst 1, 1) := by decide +kernel
theorem dX7_item_23 : decode cX7_item 23 = .ok (.iadd, 1) := by decide +kernel
theorem dX7_item_24 : decode cX7_item 24 = .ok (.iload_n 2, 1) := by decide +kernel
theorem dX7_item_25 : decode cX7_item 25 = .ok (.iastore, 1) := by decide +kernel
theorem dX7_item_26 : decode cX7_item 26 = .ok (.aload_n 0, 1) := by decide +kernel
theorem dX7_item_27 : decode cX7_item 27 = .ok (.getfield 77, 3) := by decide +kernel
theorem dX7_item_30 : decode cX7_item 30 = .ok (.iload 5, 2) := by decide +kernel
theorem dX7_item_32 : decode cX7_item 32 = .ok (.iconst 2, 1) := by decide +kernel
theorem dX7_item_33 : decode cX7_item 33 = .ok (.iadd, 1) := by decide +kernel
theorem dX7_item_34 : decode cX7_item 34 = .ok (.iload_n 3, 1) := by decide +kernel
theorem dX7_item_35 : decode cX7_item 35 = .ok (.iastore, 1) := by decide +kernel
theorem dX7_item_36 : decode cX7_item 36 = .ok (.aload_n 0, 1) := by decide +kernel
theorem dX7_item_37 : decode cX7_item 37 = .ok (.getfield 77, 3) := by decide +kernel
theorem dX7_item_40 : decode cX7_item 40 = .ok (.iload 5, 2) := by decide +kernel
theorem dX7_item_42 : decode cX7_item 42 = .ok (.iconst 3, 1) := by decide +kernel
theorem dX7_item_43 : decode cX7_item 43 = .ok (.iadd, 1) := by decide +kernel
theorem dX7_item_44 : decode cX7_item 44 = .ok (.iload 4, 2) := by decide +kernel
theorem dX7_item_46 : decode cX7_item 46 = .ok (.iastore, 1) := by decide +kernel
theorem dX7_item_47 : decode cX7_item 47 = .ok (.aload_n 0, 1) := by decide +kernel
theorem dX7_item_48 : decode cX7_item 48 = .ok (.dup, 1) := by decide +kernel
theorem dX7_item_49 : decode cX7_item 49 = .ok (.getfield 330, 3) := by decide +kernel
theorem dX7_item_52 : decode cX7_item 52 = .ok (.iconst 1, 1) := by decide +kernel
theorem dX7_item_53 : decode cX7_item 53 = .ok (.iadd, 1) := by decide +kernel
theorem dX7_item_54 : decode cX7_item 54 = .ok (.putfield 330, 3) := by decide +kernel
theorem dX7_item_57 : decode cX7_item 57 = .ok (.return_, 1) := by decide +kernel
set_option maxRecDepth 20000 in
theorem ggX7_wordOf_X7_isWord : GoodIn wsX7_wordOf wsX7_isWord := goodIn_r _ [6, 7, 8, 9, 10, 11, 12, 13, 14, 15, 16, 17, 18, 19, 20, 21, 22, 23, 24, 25, 26, 27, 28, 29, 30, 31, 32, 33, 34, 35, 36, 37, 38, 39, 40, 41, 42, 43, 44, 45, 46, 47, 48, 49, 50, 51, 52, 53, 54, 55, 56, 57, 58, 59, 60, 61, 62, 63, 64, 65, 66, 67, 68, 69, 70, 71, 72, 73, 74, 75, 76, 77, 78, 79, 80, 81, 82, 83, 84, 85, 86] (by decide +kernel) (by decide +kernel)
set_option maxRecDepth 20000 in
theorem gX7_wordOf_X7_isWord : GoodIn wsX7_wordOf (wsV RX7 333 RX7 yX7_isWord wsX7_isWord) := goodIn_app (goodIn_of _ (by decide +kernel)) ggX7_wordOf_X7_isWord
theorem dX7_wordOf_0 : decode cX7_wordOf 0 = .ok (.iconst (-1), 1) := by decide +kernel
theorem dX7_wordOf_1 : decode cX7_wordOf 1 = .ok (.istore_n 2, 1) := by decide +kernel
theorem dX7_wordOf_2 : decode cX7_wordOf 2 = .ok (.iconst 0, 1) := by decide +kernel
theorem dX7_wordOf_3 : decode cX7_wordOf 3 = .ok (.istore_n 3, 1) := by decide +kernel
theorem dX7_wordOf_4 : decode cX7_wordOf 4 = .ok (.iload_n 3, 1) := by decide +kernel
theorem dX7_wordOf_5 : decode cX7_wordOf 5 = .ok (.aload_n 1, 1) := by decide +kernel
theorem dX7_wordOf_6 : decode cX7_wordOf 6 = .ok (.arraylength, 1) := by decide +kernel
theorem dX7_wordOf_7 : decode cX7_wordOf 7 = .ok (.if_icmp .ge 32, 3) := by decide +kernel
theorem dX7_wordOf_10 : decode cX7_wordOf 10 = .ok (.aload_n 0, 1) := by decide +kernel
theorem dX7_wordOf_11 : decode cX7_wordOf 11 = .ok (.getfield 319, 3) := by decide +kernel
theorem dX7_wordOf_14 : decode cX7_wordOf 14 = .ok (.ifCond .ne 25, 3) := by decide +kernel
theorem dX7_wordOf_17 : decode cX7_wordOf 17 = .ok (.aload_n 0, 1) := by decide +kernel
theorem dX7_wordOf_18 : decode cX7_wordOf 18 = .ok (.aload_n 1, 1) := by decide +kernel
theorem dX7_wordOf_19 : decode cX7_wordOf 19 = .ok (.iload_n 3, 1) := by decide +kernel
theorem dX7_wordOf_20 : decode cX7_wordOf 20 = .ok (.aaload, 1) := by decide +kernel
theorem dX7_wordOf_21 : decode cX7_wordOf 21 = .ok (.invokevirtual 333, 3) := by decide +kernel
theorem dX7_wordOf_24 : decode cX7_wordOf 24 = .ok (.ifCond .eq 7, 3) := by decide +kernel
theorem dX7_wordOf_27 : decode cX7_wordOf 27 = .ok (.iload_n 3, 1) := by decide +kernel
theorem dX7_wordOf_28 : decode cX7_wordOf 28 = .ok (.goto 4, 3) := by decide +kernel
theorem dX7_wordOf_31 : decode cX7_wordOf 31 = .ok (.iload_n 2, 1) := by decide +kernel
theorem dX7_wordOf_32 : decode cX7_wordOf 32 = .ok (.istore_n 2, 1) := by decide +kernel
theorem dX7_wordOf_33 : decode cX7_wordOf 33 = .ok (.iinc 3 1, 3) := by decide +kernel
theorem dX7_wordOf_36 : decode cX7_wordOf 36 = .ok (.goto (-32), 3) := by decide +kernel
theorem dX7_wordOf_39 : decode cX7_wordOf 39 = .ok (.iload_n 2, 1) := by decide +kernel
theorem dX7_wordOf_40 : decode cX7_wordOf 40 = .ok (.ireturn, 1) := by decide +kernel
set_option maxRecDepth 20000 in
theorem ggX7_readSeed_X7_must : GoodIn wsX7_readSeed wsX7_must := goodIn_r _ [12, 3, 13, 14, 15, 11, 16, 17, 18, 19, 20, 21, 22, 6, 23, 24, 25, 26, 27, 28, 29, 30, 31, 32, 100, 101, 102, 103, 104, 105, 106, 107, 108, 109, 110, 111, 112, 113, 114, 115, 116, 117, 118, 119, 120, 121, 122, 123, 124, 125, 126] (by decide +kernel) (by decide +kernel)
set_option maxRecDepth 20000 in
theorem gX7_readSeed_X7_must : GoodIn wsX7_readSeed (wsV RX7 326 RX7 yX7_must wsX7_must) := goodIn_app (goodIn_of _ (by decide +kernel)) ggX7_readSeed_X7_must
set_option maxRecDepth 20000 in
theorem ggX7_readSeed_X7_number : GoodIn wsX7_readSeed wsX7_number := goodIn_r _ [36, 19, 20, 30, 31, 11, 32, 8, 9, 10, 12, 3, 13, 14, 15, 16, 17, 18, 21, 22, 6, 23, 24, 25, 26, 27, 28, 29, 100, 101, 102, 103, 104, 105, 106, 107, 108, 109, 110, 111, 112, 113, 114, 115, 116, 117, 118, 119, 120, 121, 122, 123, 124, 125, 126] (by decide +kernel) (by decide +kernel)
set_option maxRecDepth 20000 in
theorem gX7_readSeed_X7_number : GoodIn wsX7_readSeed (wsV RX7 340 RX7 yX7_number wsX7_number) := goodIn_app (goodIn_of _ (by decide +kernel)) ggX7_readSeed_X7_number
set_option maxRecDepth 20000 in
theorem ggX7_readSeed_X7_wordOf : GoodIn wsX7_readSeed wsX7_wordOf := goodIn_r _ [40, 3, 41, 42, 43, 11, 44, 20, 17, 18, 29, 45, 46, 47, 48, 49, 50, 51, 52, 53, 54, 55, 56, 57, 58, 59, 60, 61, 62, 63, 64, 65, 66, 67, 68, 69, 70, 71, 72, 73, 74, 75, 76, 77, 78, 79, 80, 81, 82, 83, 84, 85, 86, 87, 88, 89, 90, 91, 92, 93, 100, 101, 102, 103, 104, 105, 106, 107, 108, 109, 110, 111, 112, 113, 114, 115, 116, 117, 118, 119, 120, 121, 122, 123, 124, 125, 126] (by decide +kernel) (by decide +kernel)
set_option maxRecDepth 20000 in
theorem gX7_readSeed_X7_wordOf : GoodIn wsX7_readSeed (wsV RX7 343 RX7 yX7_wordOf wsX7_wordOf) := goodIn_app (goodIn_of _ (by decide +kernel)) ggX7_readSeed_X7_wordOf
set_option maxRecDepth 20000 in
theorem ggX7_readSeed_X7_isWord : GoodIn wsX7_readSeed wsX7_isWord := goodIn_r _ [44, 20, 17, 18, 29, 45, 46, 47, 48, 49, 50, 51, 52, 53, 54, 55, 56, 57, 58, 59, 60, 61, 62, 63, 64, 65, 66, 67, 68, 69, 70, 71, 72, 73, 74, 75, 76, 77, 78, 79, 80, 81, 82, 83, 84, 85, 86, 87, 88, 89, 90, 91, 92, 93, 100, 101, 102, 103, 104, 105, 106, 107, 108, 109, 110, 111, 112, 113, 114, 115, 116, 117, 118, 119, 120, 121, 122, 123, 124, 125, 126] (by decide +kernel) (by decide +kernel)
set_option maxRecDepth 20000 in
theorem gX7_readSeed_X7_isWord : GoodIn wsX7_readSeed (wsV RX7 333 RX7 yX7_isWord wsX7_isWord) := goodIn_app (goodIn_of _ (by decide +kernel)) ggX7_readSeed_X7_isWord
set_option maxRecDepth 20000 in
theorem ggX7_readSeed_X7_item : GoodIn wsX7_readSeed wsX7_item := goodIn_r _ [97, 98, 99, 100, 101, 102, 103, 104, 105, 106, 107, 108, 109, 110, 111, 112, 113, 114, 115, 116, 117, 118, 119, 120, 121, 122, 123, 124, 125, 126] (by decide +kernel) (by decide +kernel)
set_option maxRecDepth 20000 in
theorem gX7_readSeed_X7_item : GoodIn wsX7_readSeed (wsV RX7 349 RX7 yX7_item wsX7_item) := goodIn_app (goodIn_of _ (by decide +kernel)) ggX7_readSeed_X7_item
theorem dX7_readSeed_0 : decode cX7_readSeed 0 = .ok (.aload_n 0, 1) := by decide +kernel
theorem dX7_readSeed_1 : decode cX7_readSeed 1 = .ok (.aload_n 0, 1) := by decide +kernel
theorem dX7_readSeed_2 : decode cX7_readSeed 2 = .ok (.getfield 337, 3) := by decide +kernel
theorem dX7_readSeed_5 : decode cX7_readSeed 5 = .ok (.bipush 8, 2) := by decide +kernel
theorem dX7_readSeed_7 : decode cX7_readSeed 7 = .ok (.if_icmp .ge 7, 3) := by decide +kernel
theorem dX7_readSeed_10 : decode cX7_readSeed 10 = .ok (.iconst 1, 1) := by decide +kernel
theorem dX7_readSeed_11 : decode cX7_readSeed 11 = .ok (.goto 4, 3) := by decide +kernel
theorem dX7_readSeed_14 : decode cX7_readSeed 14 = .ok (.iconst 0, 1) := by decide +kernel
theorem dX7_readSeed_15 : decode cX7_readSeed 15 = .ok (.invokevirtual 326, 3) := by decide +kernel
theorem dX7_readSeed_18 : decode cX7_readSeed 18 = .ok (.aload_n 0, 1) := by decide +kernel
theorem dX7_readSeed_19 : decode cX7_readSeed 19 = .ok (.dup, 1) := by decide +kernel
theorem dX7_readSeed_20 : decode cX7_readSeed 20 = .ok (.getfield 337, 3) := by decide +kernel
theorem dX7_readSeed_23 : decode cX7_readSeed 23 = .ok (.iconst 1, 1) := by decide +kernel
theorem dX7_readSeed_24 : decode cX7_readSeed 24 = .ok (.iadd, 1) := by decide +kernel
theorem dX7_readSeed_25 : decode cX7_readSeed 25 = .ok (.putfield 337, 3) := by decide +kernel
theorem dX7_readSeed_28 : decode cX7_readSeed 28 = .ok (.aload_n 0, 1) := by decide +kernel
theorem dX7_readSeed_29 : decode cX7_readSeed 29 = .ok (.iconst 0, 1) := by decide +kernel
theorem dX7_readSeed_30 : decode cX7_readSeed 30 = .ok (.bipush 35, 2) := by decide +kernel
theorem dX7_readSeed_32 : decode cX7_readSeed 32 = .ok (.invokevirtual 340, 3) := by decide +kernel
theorem dX7_readSeed_35 : decode cX7_readSeed 35 = .ok (.istore_n 2, 1) := by decide +kernel
theorem dX7_readSeed_36 : decode cX7_readSeed 36 = .ok (.aload_n 0, 1) := by decide +kernel
theorem dX7_readSeed_37 : decode cX7_readSeed 37 = .ok (.aload_n 0, 1) := by decide +kernel
theorem dX7_readSeed_38 : decode cX7_readSeed 38 = .ok (.getfield 65, 3) := by decide +kernel
theorem dX7_readSeed_41 : decode cX7_readSeed 41 = .ok (.invokevirtual 343, 3) := by decide +kernel
theorem dX7_readSeed_44 : decode cX7_readSeed 44 = .ok (.istore_n 3, 1) := by decide +kernel
theorem dX7_readSeed_45 : decode cX7_readSeed 45 = .ok (.iload_n 3, 1) := by decide +kernel
theorem dX7_readSeed_46 : decode cX7_readSeed 46 = .ok (.ifCond .lt 8, 3) := by decide +kernel
theorem dX7_readSeed_49 : decode cX7_readSeed 49 = .ok (.aload_n 0, 1) := by decide +kernel
theorem dX7_readSeed_50 : decode cX7_readSeed 50 = .ok (.iconst 1, 1) := by decide +kernel
theorem dX7_readSeed_51 : decode cX7_readSeed 51 = .ok (.invokevirtual 326, 3) := by decide +kernel
theorem dX7_readSeed_54 : decode cX7_readSeed 54 = .ok (.iconst 0, 1) := by decide +kernel
theorem dX7_readSeed_55 : decode cX7_readSeed 55 = .ok (.istore 4, 2) := by decide +kernel
theorem dX7_readSeed_57 : decode cX7_readSeed 57 = .ok (.aload_n 0, 1) := by decide +kernel
theorem dX7_readSeed_58 : decode cX7_readSeed 58 = .ok (.getfield 319, 3) := by decide +kernel
theorem dX7_readSeed_61 : decode cX7_readSeed 61 = .ok (.ifCond .ne 28, 3) := by decide +kernel
theorem dX7_readSeed_64 : decode cX7_readSeed 64 = .ok (.aload_n 0, 1) := by decide +kernel
theorem dX7_readSeed_65 : decode cX7_readSeed 65 = .ok (.ldc_w 347, 3) := by decide +kernel
theorem dX7_readSeed_68 : decode cX7_readSeed 68 = .ok (.invokevirtual 333, 3) := by decide +kernel
theorem dX7_readSeed_71 : decode cX7_readSeed 71 = .ok (.ifCond .eq 18, 3) := by decide +kernel
theorem dX7_readSeed_74 : decode cX7_readSeed 74 = .ok (.aload_n 0, 1) := by decide +kernel
theorem dX7_readSeed_75 : decode cX7_readSeed 75 = .ok (.iconst 1, 1) := by decide +kernel
theorem dX7_readSeed_76 : decode cX7_readSeed 76 = .ok (.invokevirtual 326, 3) := by decide +kernel
theorem dX7_readSeed_79 : decode cX7_readSeed 79 = .ok (.aload_n 0, 1) := by decide +kernel
theorem dX7_readSeed_80 : decode cX7_readSeed 80 = .ok (.iconst 0, 1) := by decide +kernel
theorem dX7_readSeed_81 : decode cX7_readSeed 81 = .ok (.sipush 999, 3) := by decide +kernel
theorem dX7_readSeed_84 : decode cX7_readSeed 84 = .ok (.invokevirtual 340, 3) := by decide +kernel
theorem dX7_readSeed_87 : decode cX7_readSeed 87 = .ok (.istore 4, 2) := by decide +kernel
theorem dX7_readSeed_89 : decode cX7_readSeed 89 = .ok (.aload_n 0, 1) := by decide +kernel
theorem dX7_readSeed_90 : decode cX7_readSeed 90 = .ok (.iload_n 1, 1) := by decide +kernel
theorem dX7_readSeed_91 : decode cX7_readSeed 91 = .ok (.iload_n 2, 1) := by decide +kernel
theorem dX7_readSeed_92 : decode cX7_readSeed 92 = .ok (.iconst 0, 1) := by decide +kernel
theorem dX7_readSeed_93 : decode cX7_readSeed 93 = .ok (.iload_n 3, 1) := by decide +kernel
theorem dX7_readSeed_94 : decode cX7_readSeed 94 = .ok (.invokestatic 192, 3) := by decide +kernel
theorem dX7_readSeed_97 : decode cX7_readSeed 97 = .ok (.iload 4, 2) := by decide +kernel
theorem dX7_readSeed_99 : decode cX7_readSeed 99 = .ok (.invokevirtual 349, 3) := by decide +kernel
theorem dX7_readSeed_102 : decode cX7_readSeed 102 = .ok (.return_, 1) := by decide +kernel
set_option maxRecDepth 20000 in
theorem ggX7_readGround_X7_must : GoodIn wsX7_readGround wsX7_must := goodIn_r _ [7, 1, 8, 9, 10, 6, 11, 12, 13, 14, 15, 16, 17, 18, 19, 20, 21, 22, 23, 24, 25, 26, 27, 28, 39, 40, 41, 42, 43, 44, 45, 46, 47, 48, 49, 50, 51, 52, 53, 54, 55, 56, 57, 58, 59, 60, 61, 62, 63, 64, 65] (by decide +kernel) (by decide +kernel)
set_option maxRecDepth 20000 in
theorem gX7_readGround_X7_must : GoodIn wsX7_readGround (wsV RX7 326 RX7 yX7_must wsX7_must) := goodIn_app (goodIn_of _ (by decide +kernel)) ggX7_readGround_X7_must
set_option maxRecDepth 20000 in
theorem ggX7_readGround_X7_number : GoodIn wsX7_readGround wsX7_number := goodIn_r _ [32, 14, 15, 26, 27, 6, 28, 3, 4, 5, 7, 1, 8, 9, 10, 11, 12, 13, 16, 17, 18, 19, 20, 21, 22, 23, 24, 25, 39, 40, 41, 42, 43, 44, 45, 46, 47, 48, 49, 50, 51, 52, 53, 54, 55, 56, 57, 58, 59, 60, 61, 62, 63, 64, 65] (by decide +kernel) (by decide +kernel)
set_option maxRecDepth 20000 in
theorem gX7_readGround_X7_number : GoodIn wsX7_readGround (wsV RX7 340 RX7 yX7_number wsX7_number) := goodIn_app (goodIn_of _ (by decide +kernel)) ggX7_readGround_X7_number
set_option maxRecDepth 20000 in
theorem ggX7_readGround_X7_item : GoodIn wsX7_readGround wsX7_item := goodIn_r _ [36, 37, 38, 39, 40, 41, 42, 43, 44, 45, 46, 47, 48, 49, 50, 51, 52, 53, 54, 55, 56, 57, 58, 59, 60, 61, 62, 63, 64, 65] (by decide +kernel) (by decide +kernel)
set_option maxRecDepth 20000 in
theorem gX7_readGround_X7_item : GoodIn wsX7_readGround (wsV RX7 349 RX7 yX7_item wsX7_item) := goodIn_app (goodIn_of _ (by decide +kernel)) ggX7_readGround_X7_item
theorem dX7_readGround_0 : decode cX7_readGround 0 = .ok (.aload_n 0, 1) := by decide +kernel
theorem dX7_readGround_1 : decode cX7_readGround 1 = .ok (.iconst 1, 1) := by decide +kernel
theorem dX7_readGround_2 : decode cX7_readGround 2 = .ok (.invokevirtual 326, 3) := by decide +kernel
theorem dX7_readGround_5 : decode cX7_readGround 5 = .ok (.aload_n 0, 1) := by decide +kernel
theorem dX7_readGround_6 : decode cX7_readGround 6 = .ok (.iconst 0, 1) := by decide +kernel
theorem dX7_readGround_7 : decode cX7_readGround 7 = .ok (.bipush 35, 2) := by decide +kernel
theorem dX7_readGround_9 : decode cX7_readGround 9 = .ok (.invokevirtual 340, 3) := by decide +kernel
theorem dX7_readGround_12 : decode cX7_readGround 12 = .ok (.istore_n 2, 1) := by decide +kernel
theorem dX7_readGround_13 : decode cX7_readGround 13 = .ok (.aload_n 0, 1) := by decide +kernel
theorem dX7_readGround_14 : decode cX7_readGround 14 = .ok (.getfield 319, 3) := by decide +kernel
theorem dX7_readGround_17 : decode cX7_readGround 17 = .ok (.ifCond .ne 10, 3) := by decide +kernel
theorem dX7_readGround_20 : decode cX7_readGround 20 = .ok (.aload_n 0, 1) := by decide +kernel
theorem dX7_readGround_21 : decode cX7_readGround 21 = .ok (.getfield 80, 3) := by decide +kernel
theorem dX7_readGround_24 : decode cX7_readGround 24 = .ok (.iload_n 2, 1) := by decide +kernel
theorem dX7_readGround_25 : decode cX7_readGround 25 = .ok (.iload_n 1, 1) := by decide +kernel
theorem dX7_readGround_26 : decode cX7_readGround 26 = .ok (.iastore, 1) := by decide +kernel
theorem dX7_readGround_27 : decode cX7_readGround 27 = .ok (.aload_n 0, 1) := by decide +kernel
theorem dX7_readGround_28 : decode cX7_readGround 28 = .ok (.bipush 10, 2) := by decide +kernel
theorem dX7_readGround_30 : decode cX7_readGround 30 = .ok (.iload_n 2, 1) := by decide +kernel
theorem dX7_readGround_31 : decode cX7_readGround 31 = .ok (.iload_n 1, 1) := by decide +kernel
theorem dX7_readGround_32 : decode cX7_readGround 32 = .ok (.iconst 0, 1) := by decide +kernel
theorem dX7_readGround_33 : decode cX7_readGround 33 = .ok (.invokevirtual 349, 3) := by decide +kernel
theorem dX7_readGround_36 : decode cX7_readGround 36 = .ok (.return_, 1) := by decide +kernel
set_option maxRecDepth 20000 in
theorem ggX7_readItem_X7_wordOf : GoodIn wsX7_readItem wsX7_wordOf := goodIn_r _ [10, 11, 12, 13, 14, 9, 15, 4, 16, 17, 18, 19, 20, 21, 22, 23, 24, 25, 26, 27, 28, 29, 30, 31, 32, 33, 34, 35, 36, 37, 38, 39, 40, 41, 42, 43, 44, 45, 46, 47, 48, 49, 50, 51, 52, 53, 54, 55, 56, 57, 58, 59, 60, 61, 62, 63, 64, 65, 66, 67, 114, 115, 116, 117, 118, 119, 120, 121, 122, 123, 124, 125, 126, 127, 128, 129, 130, 131, 132, 133, 134, 135, 136, 137, 138, 139, 140] (by decide +kernel) (by decide +kernel)
set_option maxRecDepth 20000 in
theorem gX7_readItem_X7_wordOf : GoodIn wsX7_readItem (wsV RX7 343 RX7 yX7_wordOf wsX7_wordOf) := goodIn_app (goodIn_of _ (by decide +kernel)) ggX7_readItem_X7_wordOf
set_option maxRecDepth 20000 in
theorem ggX7_readItem_X7_readSeed : GoodIn wsX7_readItem wsX7_readSeed := goodIn_r _ [71, 72, 73, 11, 74, 75, 76, 77, 78, 79, 80, 9, 81, 82, 83, 84, 85, 16, 17, 3, 4, 86, 87, 88, 89, 90, 91, 92, 93, 18, 94, 95, 96, 97, 98, 99, 100, 6, 7, 8, 10, 12, 13, 14, 15, 19, 20, 21, 22, 23, 24, 25, 26, 27, 28, 29, 30, 31, 32, 33, 34, 35, 36, 37, 38, 39, 40, 41, 42, 43, 44, 45, 46, 47, 48, 49, 50, 51, 52, 53, 54, 55, 56, 57, 58, 59, 60, 61, 62, 63, 64, 65, 66, 67, 101, 102, 103, 104, 105, 106, 114, 115, 116, 117, 118, 119, 120, 121, 122, 123, 124, 125, 126, 127, 128, 129, 130, 131, 132, 133, 134, 135, 136, 137, 138, 139, 140] (by decide +kernel) (by decide +kernel)
set_option maxRecDepth 20000 in
theorem gX7_readItem_X7_readSeed : GoodIn wsX7_readItem (wsV RX7 353 RX7 yX7_readSeed wsX7_readSeed) := goodIn_app (goodIn_of _ (by decide +kernel)) ggX7_readItem_X7_readSeed
set_option maxRecDepth 20000 in
theorem ggX7_readItem_X7_readGround : GoodIn wsX7_readItem wsX7_readGround := goodIn_r _ [110, 11, 5, 78, 79, 80, 9, 81, 82, 83, 84, 85, 16, 17, 3, 4, 86, 87, 76, 88, 89, 90, 91, 92, 93, 18, 94, 95, 96, 97, 98, 99, 100, 101, 102, 103, 104, 105, 106, 114, 115, 116, 117, 118, 119, 120, 121, 122, 123, 124, 125, 126, 127, 128, 129, 130, 131, 132, 133, 134, 135, 136, 137, 138, 139, 140] (by decide +kernel) (by decide +kernel)
set_option maxRecDepth 20000 in
theorem gX7_readItem_X7_readGround : GoodIn wsX7_readItem (wsV RX7 356 RX7 yX7_readGround wsX7_readGround) := goodIn_app (goodIn_of _ (by decide +kernel)) ggX7_readItem_X7_readGround
set_option maxRecDepth 20000 in
theorem ggX7_readItem_X7_isWord : GoodIn wsX7_readItem wsX7_isWord := goodIn_r _ [15, 4, 16, 17, 18, 19, 20, 21, 22, 23, 24, 25, 26, 27, 28, 29, 30, 31, 32, 33, 34, 35, 36, 37, 38, 39, 40, 41, 42, 43, 44, 45, 46, 47, 48, 49, 50, 51, 52, 53, 54, 55, 56, 57, 58, 59, 60, 61, 62, 63, 64, 65, 66, 67, 114, 115, 116, 117, 118, 119, 120, 121, 122, 123, 124, 125, 126, 127, 128, 129, 130, 131, 132, 133, 134, 135, 136, 137, 138, 139, 140] (by decide +kernel) (by decide +kernel)
set_option maxRecDepth 20000 in
theorem gX7_readItem_X7_isWord : GoodIn wsX7_readItem (wsV RX7 333 RX7 yX7_isWord wsX7_isWord) := goodIn_app (goodIn_of _ (by decide +kernel)) ggX7_readItem_X7_isWord
set_option maxRecDepth 20000 in
theorem ggX7_readItem_X7_must : GoodIn wsX7_readItem wsX7_must := goodIn_r _ [81, 11, 82, 83, 84, 9, 85, 16, 17, 3, 4, 86, 87, 76, 88, 89, 90, 91, 92, 93, 18, 94, 95, 96, 114, 115, 116, 117, 118, 119, 120, 121, 122, 123, 124, 125, 126, 127, 128, 129, 130, 131, 132, 133, 134, 135, 136, 137, 138, 139, 140] (by decide +kernel) (by decide +kernel)
set_option maxRecDepth 20000 in
theorem gX7_readItem_X7_must : GoodIn wsX7_readItem (wsV RX7 326 RX7 yX7_must wsX7_must) := goodIn_app (goodIn_of _ (by decide +kernel)) ggX7_readItem_X7_must
set_option maxRecDepth 20000 in
theorem ggX7_readItem_X7_isCell : GoodIn wsX7_readItem wsX7_isCell := goodIn_r _ [113, 94, 95, 9, 96] (by decide +kernel) (by decide +kernel)
set_option maxRecDepth 20000 in
theorem gX7_readItem_X7_isCell : GoodIn wsX7_readItem (va_wsS RX7 116 yX7_isCell wsX7_isCell) := goodIn_app (goodIn_of _ (by decide +kernel)) ggX7_readItem_X7_isCell
set_option maxRecDepth 20000 in
theorem ggX7_readItem_X7_number : GoodIn wsX7_readItem wsX7_number := goodIn_r _ [100, 3, 4, 94, 95, 9, 96, 78, 79, 80, 81, 11, 82, 83, 84, 85, 16, 17, 86, 87, 76, 88, 89, 90, 91, 92, 93, 18, 114, 115, 116, 117, 118, 119, 120, 121, 122, 123, 124, 125, 126, 127, 128, 129, 130, 131, 132, 133, 134, 135, 136, 137, 138, 139, 140] (by decide +kernel) (by decide +kernel)
set_option maxRecDepth 20000 in
theorem gX7_readItem_X7_number : GoodIn wsX7_readItem (wsV RX7 340 RX7 yX7_number wsX7_number) := goodIn_app (goodIn_of _ (by decide +kernel)) ggX7_readItem_X7_number
set_option maxRecDepth 20000 in
theorem ggX7_readItem_X7_item : GoodIn wsX7_readItem wsX7_item := goodIn_r _ [104, 105, 106, 114, 115, 116, 117, 118, 119, 120, 121, 122, 123, 124, 125, 126, 127, 128, 129, 130, 131, 132, 133, 134, 135, 136, 137, 138, 139, 140] (by decide +kernel) (by decide +kernel)
set_option maxRecDepth 20000 in
theorem gX7_readItem_X7_item : GoodIn wsX7_readItem (wsV RX7 349 RX7 yX7_item wsX7_item) := goodIn_app (goodIn_of _ (by decide +kernel)) ggX7_readItem_X7_item
theorem dX7_readItem_0 : decode cX7_readItem 0 = .ok (.aload_n 0, 1) := by decide +kernel
theorem dX7_readItem_1 : decode cX7_readItem 1 = .ok (.aload_n 0, 1) := by decide +kernel
theorem dX7_readItem_2 : decode cX7_readItem 2 = .ok (.getfield 53, 3) := by decide +kernel
theorem dX7_readItem_5 : decode cX7_readItem 5 = .ok (.invokevirtual 343, 3) := by decide +kernel
theorem dX7_readItem_8 : decode cX7_readItem 8 = .ok (.istore_n 1, 1) := by decide +kernel
theorem dX7_readItem_9 : decode cX7_readItem 9 = .ok (.aload_n 0, 1) := by decide +kernel
theorem dX7_readItem_10 : decode cX7_readItem 10 = .ok (.aload_n 0, 1) := by decide +kernel
theorem dX7_readItem_11 : decode cX7_readItem 11 = .ok (.getfield 74, 3) := by decide +kernel
theorem dX7_readItem_14 : decode cX7_readItem 14 = .ok (.invokevirtual 343, 3) := by decide +kernel
theorem dX7_readItem_17 : decode cX7_readItem 17 = .ok (.istore_n 2, 1) := by decide +kernel
theorem dX7_readItem_18 : decode cX7_readItem 18 = .ok (.iload_n 1, 1) := by decide +kernel
theorem dX7_readItem_19 : decode cX7_readItem 19 = .ok (.ifCond .lt 11, 3) := by decide +kernel
theorem dX7_readItem_22 : decode cX7_readItem 22 = .ok (.aload_n 0, 1) := by decide +kernel
theorem dX7_readItem_23 : decode cX7_readItem 23 = .ok (.iload_n 1, 1) := by decide +kernel
theorem dX7_readItem_24 : decode cX7_readItem 24 = .ok (.invokevirtual 353, 3) := by decide +kernel
theorem dX7_readItem_27 : decode cX7_readItem 27 = .ok (.goto 90, 3) := by decide +kernel
theorem dX7_readItem_30 : decode cX7_readItem 30 = .ok (.iload_n 2, 1) := by decide +kernel
theorem dX7_readItem_31 : decode cX7_readItem 31 = .ok (.ifCond .lt 11, 3) := by decide +kernel
theorem dX7_readItem_34 : decode cX7_readItem 34 = .ok (.aload_n 0, 1) := by decide +kernel
theorem dX7_readItem_35 : decode cX7_readItem 35 = .ok (.iload_n 2, 1) := by decide +kernel
theorem dX7_readItem_36 : decode cX7_readItem 36 = .ok (.invokevirtual 356, 3) := by decide +kernel
theorem dX7_readItem_39 : decode cX7_readItem 39 = .ok (.goto 78, 3) := by decide +kernel
theorem dX7_readItem_42 : decode cX7_readItem 42 = .ok (.aload_n 0, 1) := by decide +kernel
theorem dX7_readItem_43 : decode cX7_readItem 43 = .ok (.aload_n 0, 1) := by decide +kernel
theorem dX7_readItem_44 : decode cX7_readItem 44 = .ok (.ldc_w 359, 3) := by decide +kernel
theorem dX7_readItem_47 : decode cX7_readItem 47 = .ok (.invokevirtual 333, 3) := by decide +kernel
theorem dX7_readItem_50 : decode cX7_readItem 50 = .ok (.invokevirtual 326, 3) := by decide +kernel
theorem dX7_readItem_53 : decode cX7_readItem 53 = .ok (.aload_n 0, 1) := by decide +kernel
theorem dX7_readItem_54 : decode cX7_readItem 54 = .ok (.getfield 306, 3) := by decide +kernel
theorem dX7_readItem_57 : decode cX7_readItem 57 = .ok (.istore_n 3, 1) := by decide +kernel
theorem dX7_readItem_58 : decode cX7_readItem 58 = .ok (.aload_n 0, 1) := by decide +kernel
theorem dX7_readItem_59 : decode cX7_readItem 59 = .ok (.aload_n 0, 1) := by decide +kernel
theorem dX7_readItem_60 : decode cX7_readItem 60 = .ok (.getfield 309, 3) := by decide +kernel
theorem dX7_readItem_63 : decode cX7_readItem 63 = .ok (.iconst 2, 1) := by decide +kernel
theorem dX7_readItem_64 : decode cX7_readItem 64 = .ok (.if_icmp .ne 34, 3) := by decide +kernel
theorem dX7_readItem_67 : decode cX7_readItem 67 = .ok (.iload_n 3, 1) := by decide +kernel
theorem dX7_readItem_68 : decode cX7_readItem 68 = .ok (.invokestatic 116, 3) := by decide +kernel
theorem dX7_readItem_71 : decode cX7_readItem 71 = .ok (.ifCond .eq 27, 3) := by decide +kernel
theorem dX7_readItem_74 : decode cX7_readItem 74 = .ok (.aload_n 0, 1) := by decide +kernel
theorem dX7_readItem_75 : decode cX7_readItem 75 = .ok (.getfield 80, 3) := by decide +kernel
theorem dX7_readItem_78 : decode cX7_readItem 78 = .ok (.iload_n 3, 1) := by decide +kernel
theorem dX7_readItem_79 : decode cX7_readItem 79 = .ok (.invokestatic 116, 3) := by decide +kernel
theorem dX7_readItem_82 : decode cX7_readItem 82 = .ok (.ifCond .eq 7, 3) := by decide +kernel
theorem dX7_readItem_85 : decode cX7_readItem 85 = .ok (.iload_n 3, 1) := by decide +kernel
theorem dX7_readItem_86 : decode cX7_readItem 86 = .ok (.goto 4, 3) := by decide +kernel
theorem dX7_readItem_89 : decode cX7_readItem 89 = .ok (.iconst 0, 1) := by decide +kernel
theorem dX7_readItem_90 : decode cX7_readItem 90 = .ok (.iaload, 1) := by decide +kernel
theorem dX7_readItem_91 : decode cX7_readItem 91 = .ok (.ifCond .ne 7, 3) := by decide +kernel
theorem dX7_readItem_94 : decode cX7_readItem 94 = .ok (.iconst 1, 1) := by decide +kernel
theorem dX7_readItem_95 : decode cX7_readItem 95 = .ok (.goto 4, 3) := by decide +kernel
theorem dX7_readItem_98 : decode cX7_readItem 98 = .ok (.iconst 0, 1) := by decide +kernel
theorem dX7_readItem_99 : decode cX7_readItem 99 = .ok (.invokevirtual 326, 3) := by decide +kernel
theorem dX7_readItem_102 : decode cX7_readItem 102 = .ok (.aload_n 0, 1) := by decide +kernel
theorem dX7_readItem_103 : decode cX7_readItem 103 = .ok (.bipush 11, 2) := by decide +kernel
theorem dX7_readItem_105 : decode cX7_readItem 105 = .ok (.iload_n 3, 1) := by decide +kernel
theorem dX7_readItem_106 : decode cX7_readItem 106 = .ok (.aload_n 0, 1) := by decide +kernel
theorem dX7_readItem_107 : decode cX7_readItem 107 = .ok (.iconst 0, 1) := by decide +kernel
theorem dX7_readItem_108 : decode cX7_readItem 108 = .ok (.bipush 99, 2) := by decide +kernel
theorem dX7_readItem_110 : decode cX7_readItem 110 = .ok (.invokevirtual 340, 3) := by decide +kernel
theorem dX7_readItem_113 : decode cX7_readItem 113 = .ok (.iconst 0, 1) := by decide +kernel
theorem dX7_readItem_114 : decode cX7_readItem 114 = .ok (.invokevirtual 349, 3) := by decide +kernel
theorem dX7_readItem_117 : decode cX7_readItem 117 = .ok (.return_, 1) := by decide +kernel
set_option maxRecDepth 20000 in
theorem ggX7_isToldSo_X7_lay : GoodIn wsX7_isToldSo wsX7_lay := goodIn_r _ [6, 7, 8, 9, 10, 5, 11, 19, 20, 21, 22, 23, 24, 25, 26, 27, 28, 29, 30, 31, 32, 33, 34, 35, 36, 37, 38, 39, 40, 41, 42, 43, 44, 45] (by decide +kernel) (by decide +kernel)
set_option maxRecDepth 20000 in
theorem gX7_isToldSo_X7_lay : GoodIn wsX7_isToldSo (wsV RX7 120 RX7 yX7_lay wsX7_lay) := goodIn_app (goodIn_of _ (by decide +kernel)) ggX7_isToldSo_X7_lay
set_option maxRecDepth 20000 in
theorem ggX7_isToldSo_X7_become : GoodIn wsX7_isToldSo wsX7_become := goodIn_r _ [11, 7, 19, 20, 21, 22, 23, 24, 25, 26, 27, 28, 29, 30, 31, 32, 33, 34, 35, 36, 37, 38, 39, 40, 41, 42, 43, 44, 45] (by decide +kernel) (by decide +kernel)
set_option maxRecDepth 20000 in
theorem gX7_isToldSo_X7_become : GoodIn wsX7_isToldSo (wsV RX7 113 RX7 yX7_become wsX7_become) := goodIn_app (goodIn_of _ (by decide +kernel)) ggX7_isToldSo_X7_become
set_option maxRecDepth 20000 in
theorem ggX7_isToldSo_X7_comes : GoodIn wsX7_isToldSo wsX7_comes := goodIn_r _ [15, 7, 16, 17, 5, 18, 19, 20, 21, 22, 23, 24, 25, 26, 27, 28, 29, 30, 31, 32, 33, 34, 35, 36, 37, 38, 39, 40, 41, 42, 43, 44, 45] (by decide +kernel) (by decide +kernel)
set_option maxRecDepth 20000 in
theorem gX7_isToldSo_X7_comes : GoodIn wsX7_isToldSo (wsV RX7 152 RX7 yX7_comes wsX7_comes) := goodIn_app (goodIn_of _ (by decide +kernel)) ggX7_isToldSo_X7_comes
theorem dX7_isToldSo_0 : decode cX7_isToldSo 0 = .ok (.aload_n 0, 1) := by decide +kernel
theorem dX7_isToldSo_1 : decode cX7_isToldSo 1 = .ok (.getfield 77, 3) := by decide +kernel
theorem dX7_isToldSo_4 : decode cX7_isToldSo 4 = .ok (.iload_n 1, 1) := by decide +kernel
theorem dX7_isToldSo_5 : decode cX7_isToldSo 5 = .ok (.iconst 1, 1) := by decide +kernel
theorem dX7_isToldSo_6 : decode cX7_isToldSo 6 = .ok (.iadd, 1) := by decide +kernel
theorem dX7_isToldSo_7 : decode cX7_isToldSo 7 = .ok (.iaload, 1) := by decide +kernel
theorem dX7_isToldSo_8 : decode cX7_isToldSo 8 = .ok (.istore_n 2, 1) := by decide +kernel
theorem dX7_isToldSo_9 : decode cX7_isToldSo 9 = .ok (.aload_n 0, 1) := by decide +kernel
theorem dX7_isToldSo_10 : decode cX7_isToldSo 10 = .ok (.getfield 77, 3) := by decide +kernel
theorem dX7_isToldSo_13 : decode cX7_isToldSo 13 = .ok (.iload_n 1, 1) := by decide +kernel
theorem dX7_isToldSo_14 : decode cX7_isToldSo 14 = .ok (.iconst 2, 1) := by decide +kernel
theorem dX7_isToldSo_15 : decode cX7_isToldSo 15 = .ok (.iadd, 1) := by decide +kernel
theorem dX7_isToldSo_16 : decode cX7_isToldSo 16 = .ok (.iaload, 1) := by decide +kernel
theorem dX7_isToldSo_17 : decode cX7_isToldSo 17 = .ok (.istore_n 3, 1) := by decide +kernel
theorem dX7_isToldSo_18 : decode cX7_isToldSo 18 = .ok (.aload_n 0, 1) := by decide +kernel
theorem dX7_isToldSo_19 : decode cX7_isToldSo 19 = .ok (.getfield 77, 3) := by decide +kernel
theorem dX7_isToldSo_22 : decode cX7_isToldSo 22 = .ok (.iload_n 1, 1) := by decide +kernel
theorem dX7_isToldSo_23 : decode cX7_isToldSo 23 = .ok (.iaload, 1) := by decide +kernel
theorem dX7_isToldSo_24 : decode cX7_isToldSo 24 = .ok (.bipush 10, 2) := by decide +kernel
theorem dX7_isToldSo_26 : decode cX7_isToldSo 26 = .ok (.if_icmp .ne 12, 3) := by decide +kernel
theorem dX7_isToldSo_29 : decode cX7_isToldSo 29 = .ok (.aload_n 0, 1) := by decide +kernel
theorem dX7_isToldSo_30 : decode cX7_isToldSo 30 = .ok (.iload_n 2, 1) := by decide +kernel
theorem dX7_isToldSo_31 : decode cX7_isToldSo 31 = .ok (.iload_n 3, 1) := by decide +kernel
theorem dX7_isToldSo_32 : decode cX7_isToldSo 32 = .ok (.invokevirtual 120, 3) := by decide +kernel
theorem dX7_isToldSo_35 : decode cX7_isToldSo 35 = .ok (.goto 46, 3) := by decide +kernel
theorem dX7_isToldSo_38 : decode cX7_isToldSo 38 = .ok (.aload_n 0, 1) := by decide +kernel
theorem dX7_isToldSo_39 : decode cX7_isToldSo 39 = .ok (.getfield 77, 3) := by decide +kernel
theorem dX7_isToldSo_42 : decode cX7_isToldSo 42 = .ok (.iload_n 1, 1) := by decide +kernel
theorem dX7_isToldSo_43 : decode cX7_isToldSo 43 = .ok (.iaload, 1) := by decide +kernel
theorem dX7_isToldSo_44 : decode cX7_isToldSo 44 = .ok (.bipush 11, 2) := by decide +kernel
theorem dX7_isToldSo_46 : decode cX7_isToldSo 46 = .ok (.if_icmp .ne 15, 3) := by decide +kernel
theorem dX7_isToldSo_49 : decode cX7_isToldSo 49 = .ok (.aload_n 0, 1) := by decide +kernel
theorem dX7_isToldSo_50 : decode cX7_isToldSo 50 = .ok (.bipush 49, 2) := by decide +kernel
theorem dX7_isToldSo_52 : decode cX7_isToldSo 52 = .ok (.iload_n 2, 1) := by decide +kernel
theorem dX7_isToldSo_53 : decode cX7_isToldSo 53 = .ok (.iadd, 1) := by decide +kernel
theorem dX7_isToldSo_54 : decode cX7_isToldSo 54 = .ok (.iload_n 3, 1) := by decide +kernel
theorem dX7_isToldSo_55 : decode cX7_isToldSo 55 = .ok (.invokevirtual 113, 3) := by decide +kernel
theorem dX7_isToldSo_58 : decode cX7_isToldSo 58 = .ok (.goto 23, 3) := by decide +kernel
theorem dX7_isToldSo_61 : decode cX7_isToldSo 61 = .ok (.aload_n 0, 1) := by decide +kernel
theorem dX7_isToldSo_62 : decode cX7_isToldSo 62 = .ok (.aload_n 0, 1) := by decide +kernel
theorem dX7_isToldSo_63 : decode cX7_isToldSo 63 = .ok (.getfield 77, 3) := by decide +kernel
theorem dX7_isToldSo_66 : decode cX7_isToldSo 66 = .ok (.iload_n 1, 1) := by decide +kernel
theorem dX7_isToldSo_67 : decode cX7_isToldSo 67 = .ok (.iaload, 1) := by decide +kernel
theorem dX7_isToldSo_68 : decode cX7_isToldSo 68 = .ok (.iload_n 2, 1) := by decide +kernel
theorem dX7_isToldSo_69 : decode cX7_isToldSo 69 = .ok (.iload_n 3, 1) := by decide +kernel
theorem dX7_isToldSo_70 : decode cX7_isToldSo 70 = .ok (.aload_n 0, 1) := by decide +kernel
theorem dX7_isToldSo_71 : decode cX7_isToldSo 71 = .ok (.getfield 77, 3) := by decide +kernel
theorem dX7_isToldSo_74 : decode cX7_isToldSo 74 = .ok (.iload_n 1, 1) := by decide +kernel
theorem dX7_isToldSo_75 : decode cX7_isToldSo 75 = .ok (.iconst 3, 1) := by decide +kernel
theorem dX7_isToldSo_76 : decode cX7_isToldSo 76 = .ok (.iadd, 1) := by decide +kernel
theorem dX7_isToldSo_77 : decode cX7_isToldSo 77 = .ok (.iaload, 1) := by decide +kernel
theorem dX7_isToldSo_78 : decode cX7_isToldSo 78 = .ok (.invokevirtual 152, 3) := by decide +kernel
theorem dX7_isToldSo_81 : decode cX7_isToldSo 81 = .ok (.ireturn, 1) := by decide +kernel
set_option maxRecDepth 20000 in
theorem ggX7_text_X7_next : GoodIn wsX7_text wsX7_next := goodIn_r _ [15, 1, 9, 16, 7, 17, 18, 19, 20, 21, 22, 23, 14, 24, 10, 8, 25, 26, 27, 138, 139, 140, 141, 142, 143, 144, 145, 146, 147, 148, 149, 150, 151, 152, 153, 154, 155, 156, 157, 158, 159, 160, 161, 162, 163, 164] (by decide +kernel) (by decide +kernel)
set_option maxRecDepth 20000 in
theorem gX7_text_X7_next : GoodIn wsX7_text (wsV RX7 323 RX7 yX7_next wsX7_next) := goodIn_app (goodIn_of _ (by decide +kernel)) ggX7_text_X7_next
set_option maxRecDepth 20000 in
theorem ggX7_text_X7_readItem : GoodIn wsX7_text wsX7_readItem := goodIn_r _ [31, 32, 33, 16, 7, 6, 34, 35, 36, 14, 37, 2, 38, 39, 40, 41, 1, 9, 8, 42, 43, 44, 45, 46, 47, 48, 49, 50, 51, 52, 53, 54, 55, 56, 57, 58, 59, 60, 61, 62, 63, 64, 65, 66, 67, 68, 69, 70, 71, 72, 73, 74, 75, 76, 77, 78, 79, 80, 81, 82, 83, 84, 85, 86, 87, 88, 89, 90, 91, 92, 93, 94, 5, 95, 96, 97, 19, 98, 99, 100, 101, 102, 11, 12, 13, 15, 17, 18, 20, 21, 22, 23, 24, 10, 25, 26, 27, 103, 104, 105, 106, 107, 108, 109, 110, 3, 111, 112, 113, 114, 115, 116, 117, 118, 138, 139, 140, 141, 142, 143, 144, 145, 146, 147, 148, 149, 150, 151, 152, 153, 154, 155, 156, 157, 158, 159, 160, 161, 162, 163, 164] (by decide +kernel) (by decide +kernel)
set_option maxRecDepth 20000 in
theorem gX7_text_X7_readItem : GoodIn wsX7_text (wsV RX7 361 RX7 yX7_readItem wsX7_readItem) := goodIn_app (goodIn_of _ (by decide +kernel)) ggX7_text_X7_readItem
set_option maxRecDepth 20000 in
theorem ggX7_text_X7_must : GoodIn wsX7_text wsX7_must := goodIn_r _ [102, 2, 11, 12, 13, 14, 15, 1, 9, 16, 7, 17, 18, 19, 20, 21, 22, 23, 24, 10, 8, 25, 26, 27, 138, 139, 140, 141, 142, 143, 144, 145, 146, 147, 148, 149, 150, 151, 152, 153, 154, 155, 156, 157, 158, 159, 160, 161, 162, 163, 164] (by decide +kernel) (by decide +kernel)
set_option maxRecDepth 20000 in
theorem gX7_text_X7_must : GoodIn wsX7_text (wsV RX7 326 RX7 yX7_must wsX7_must) := goodIn_app (goodIn_of _ (by decide +kernel)) ggX7_text_X7_must
set_option maxRecDepth 20000 in
theorem ggX7_text_X7_isToldSo : GoodIn wsX7_text wsX7_isToldSo := goodIn_r _ [122, 111, 123, 124, 125, 14, 126, 4, 127, 128, 129, 130, 131, 132, 133, 134, 135, 136, 137, 138, 139, 140, 141, 142, 143, 144, 145, 146, 147, 148, 149, 150, 151, 152, 153, 154, 155, 156, 157, 158, 159, 160, 161, 162, 163, 164] (by decide +kernel) (by decide +kernel)
set_option maxRecDepth 20000 in
theorem gX7_text_X7_isToldSo : GoodIn wsX7_text (wsV RX7 364 RX7 yX7_isToldSo wsX7_isToldSo) := goodIn_app (goodIn_of _ (by decide +kernel)) ggX7_text_X7_isToldSo
theorem dX7_text_0 : decode cX7_text 0 = .ok (.aload_n 0, 1) := by decide +kernel
theorem dX7_text_1 : decode cX7_text 1 = .ok (.iconst 0, 1) := by decide +kernel
theorem dX7_text_2 : decode cX7_text 2 = .ok (.putfield 297, 3) := by decide +kernel
theorem dX7_text_5 : decode cX7_text 5 = .ok (.aload_n 0, 1) := by decide +kernel
theorem dX7_text_6 : decode cX7_text 6 = .ok (.iconst 0, 1) := by decide +kernel
theorem dX7_text_7 : decode cX7_text 7 = .ok (.putfield 319, 3) := by decide +kernel
theorem dX7_text_10 : decode cX7_text 10 = .ok (.aload_n 0, 1) := by decide +kernel
theorem dX7_text_11 : decode cX7_text 11 = .ok (.iconst 0, 1) := by decide +kernel
theorem dX7_text_12 : decode cX7_text 12 = .ok (.putfield 330, 3) := by decide +kernel
theorem dX7_text_15 : decode cX7_text 15 = .ok (.aload_n 0, 1) := by decide +kernel
theorem dX7_text_16 : decode cX7_text 16 = .ok (.aload_n 0, 1) := by decide +kernel
theorem dX7_text_17 : decode cX7_text 17 = .ok (.getfield 9, 3) := by decide +kernel
theorem dX7_text_20 : decode cX7_text 20 = .ok (.iconst 1, 1) := by decide +kernel
theorem dX7_text_21 : decode cX7_text 21 = .ok (.iaload, 1) := by decide +kernel
theorem dX7_text_22 : decode cX7_text 22 = .ok (.putfield 337, 3) := by decide +kernel
theorem dX7_text_25 : decode cX7_text 25 = .ok (.iconst 0, 1) := by decide +kernel
theorem dX7_text_26 : decode cX7_text 26 = .ok (.istore_n 1, 1) := by decide +kernel
theorem dX7_text_27 : decode cX7_text 27 = .ok (.iload_n 1, 1) := by decide +kernel
theorem dX7_text_28 : decode cX7_text 28 = .ok (.bipush 36, 2) := by decide +kernel
theorem dX7_text_30 : decode cX7_text 30 = .ok (.if_icmp .ge 24, 3) := by decide +kernel
theorem dX7_text_33 : decode cX7_text 33 = .ok (.aload_n 0, 1) := by decide +kernel
theorem dX7_text_34 : decode cX7_text 34 = .ok (.getfield 80, 3) := by decide +kernel
theorem dX7_text_37 : decode cX7_text 37 = .ok (.iload_n 1, 1) := by decide +kernel
theorem dX7_text_38 : decode cX7_text 38 = .ok (.aload_n 0, 1) := by decide +kernel
theorem dX7_text_39 : decode cX7_text 39 = .ok (.getfield 9, 3) := by decide +kernel
theorem dX7_text_42 : decode cX7_text 42 = .ok (.bipush 13, 2) := by decide +kernel
theorem dX7_text_44 : decode cX7_text 44 = .ok (.iload_n 1, 1) := by decide +kernel
theorem dX7_text_45 : decode cX7_text 45 = .ok (.iadd, 1) := by decide +kernel
theorem dX7_text_46 : decode cX7_text 46 = .ok (.iaload, 1) := by decide +kernel
theorem dX7_text_47 : decode cX7_text 47 = .ok (.iastore, 1) := by decide +kernel
theorem dX7_text_48 : decode cX7_text 48 = .ok (.iinc 1 1, 3) := by decide +kernel
theorem dX7_text_51 : decode cX7_text 51 = .ok (.goto (-24), 3) := by decide +kernel
theorem dX7_text_54 : decode cX7_text 54 = .ok (.aload_n 0, 1) := by decide +kernel
theorem dX7_text_55 : decode cX7_text 55 = .ok (.invokevirtual 323, 3) := by decide +kernel
theorem dX7_text_58 : decode cX7_text 58 = .ok (.aload_n 0, 1) := by decide +kernel
theorem dX7_text_59 : decode cX7_text 59 = .ok (.invokevirtual 361, 3) := by decide +kernel
theorem dX7_text_62 : decode cX7_text 62 = .ok (.aload_n 0, 1) := by decide +kernel
theorem dX7_text_63 : decode cX7_text 63 = .ok (.getfield 319, 3) := by decide +kernel
theorem dX7_text_66 : decode cX7_text 66 = .ok (.ifCond .ne 37, 3) := by decide +kernel
theorem dX7_text_69 : decode cX7_text 69 = .ok (.aload_n 0, 1) := by decide +kernel
theorem dX7_text_70 : decode cX7_text 70 = .ok (.getfield 309, 3) := by decide +kernel
theorem dX7_text_73 : decode cX7_text 73 = .ok (.iconst 3, 1) := by decide +kernel
theorem dX7_text_74 : decode cX7_text 74 = .ok (.if_icmp .ne 29, 3) := by decide +kernel
theorem dX7_text_77 : decode cX7_text 77 = .ok (.aload_n 0, 1) := by decide +kernel
theorem dX7_text_78 : decode cX7_text 78 = .ok (.getfield 34, 3) := by decide +kernel
theorem dX7_text_81 : decode cX7_text 81 = .ok (.aload_n 0, 1) := by decide +kernel
theorem dX7_text_82 : decode cX7_text 82 = .ok (.getfield 300, 3) := by decide +kernel
theorem dX7_text_85 : decode cX7_text 85 = .ok (.iaload, 1) := by decide +kernel
theorem dX7_text_86 : decode cX7_text 86 = .ok (.bipush 59, 2) := by decide +kernel
theorem dX7_text_88 : decode cX7_text 88 = .ok (.if_icmp .ne 15, 3) := by decide +kernel
theorem dX7_text_91 : decode cX7_text 91 = .ok (.aload_n 0, 1) := by decide +kernel
theorem dX7_text_92 : decode cX7_text 92 = .ok (.iconst 1, 1) := by decide +kernel
theorem dX7_text_93 : decode cX7_text 93 = .ok (.invokevirtual 326, 3) := by decide +kernel
theorem dX7_text_96 : decode cX7_text 96 = .ok (.aload_n 0, 1) := by decide +kernel
theorem dX7_text_97 : decode cX7_text 97 = .ok (.invokevirtual 361, 3) := by decide +kernel
theorem dX7_text_100 : decode cX7_text 100 = .ok (.goto (-38), 3) := by decide +kernel
theorem dX7_text_103 : decode cX7_text 103 = .ok (.aload_n 0, 1) := by decide +kernel
theorem dX7_text_104 : decode cX7_text 104 = .ok (.aload_n 0, 1) := by decide +kernel
theorem dX7_text_105 : decode cX7_text 105 = .ok (.getfield 309, 3) := by decide +kernel
theorem dX7_text_108 : decode cX7_text 108 = .ok (.ifCond .ne 7, 3) := by decide +kernel
theorem dX7_text_111 : decode cX7_text 111 = .ok (.iconst 1, 1) := by decide +kernel
theorem dX7_text_112 : decode cX7_text 112 = .ok (.goto 4, 3) := by decide +kernel
theorem dX7_text_115 : decode cX7_text 115 = .ok (.iconst 0, 1) := by decide +kernel
theorem dX7_text_116 : decode cX7_text 116 = .ok (.invokevirtual 326, 3) := by decide +kernel
theorem dX7_text_119 : decode cX7_text 119 = .ok (.aload_n 0, 1) := by decide +kernel
theorem dX7_text_120 : decode cX7_text 120 = .ok (.iconst 0, 1) := by decide +kernel
theorem dX7_text_121 : decode cX7_text 121 = .ok (.putfield 293, 3) := by decide +kernel
theorem dX7_text_124 : decode cX7_text 124 = .ok (.aload_n 0, 1) := by decide +kernel
theorem dX7_text_125 : decode cX7_text 125 = .ok (.getfield 319, 3) := by decide +kernel
theorem dX7_text_128 : decode cX7_text 128 = .ok (.ifCond .eq 10, 3) := by decide +kernel
theorem dX7_text_131 : decode cX7_text 131 = .ok (.iconst (-1), 1) := by decide +kernel
theorem dX7_text_132 : decode cX7_text 132 = .ok (.aload_n 0, 1) := by decide +kernel
theorem dX7_text_133 : decode cX7_text 133 = .ok (.getfield 300, 3) := by decide +kernel
theorem dX7_text_136 : decode cX7_text 136 = .ok (.isub, 1) := by decide +kernel
theorem dX7_text_137 : decode cX7_text 137 = .ok (.ireturn, 1) := by decide +kernel
theorem dX7_text_138 : decode cX7_text 138 = .ok (.iconst 0, 1) := by decide +kernel
theorem dX7_text_139 : decode cX7_text 139 = .ok (.istore_n 1, 1) := by decide +kernel
theorem dX7_text_140 : decode cX7_text 140 = .ok (.iconst 0, 1) := by decide +kernel
theorem dX7_text_141 : decode cX7_text 141 = .ok (.istore_n 2, 1) := by decide +kernel
theorem dX7_text_142 : decode cX7_text 142 = .ok (.iload_n 2, 1) := by decide +kernel
theorem dX7_text_143 : decode cX7_text 143 = .ok (.aload_n 0, 1) := by decide +kernel
theorem dX7_text_144 : decode cX7_text 144 = .ok (.getfield 330, 3) := by decide +kernel
theorem dX7_text_147 : decode cX7_text 147 = .ok (.if_icmp .ge 27, 3) := by decide +kernel
theorem dX7_text_150 : decode cX7_text 150 = .ok (.iload_n 1, 1) := by decide +kernel
theorem dX7_text_151 : decode cX7_text 151 = .ok (.aload_n 0, 1) := by decide +kernel
theorem dX7_text_152 : decode cX7_text 152 = .ok (.iconst 4, 1) := by decide +kernel
theorem dX7_text_153 : decode cX7_text 153 = .ok (.iload_n 2, 1) := by decide +kernel
theorem dX7_text_154 : decode cX7_text 154 = .ok (.imul, 1) := by decide +kernel
theorem dX7_text_155 : decode cX7_text 155 = .ok (.invokevirtual 364, 3) := by decide +kernel
theorem dX7_text_158 : decode cX7_text 158 = .ok (.ifCond .ge 7, 3) := by decide +kernel
theorem dX7_text_161 : decode cX7_text 161 = .ok (.iconst 0, 1) := by decide +kernel
theorem dX7_text_162 : decode cX7_text 162 = .ok (.goto 4, 3) := by decide +kernel
theorem dX7_text_165 : decode cX7_text 165 = .ok (.iconst 1, 1) := by decide +kernel
theorem dX7_text_166 : decode cX7_text 166 = .ok (.iadd, 1) := by decide +kernel
theorem dX7_text_167 : decode cX7_text 167 = .ok (.istore_n 1, 1) := by decide +kernel
theorem dX7_text_168 : decode cX7_text 168 = .ok (.iinc 2 1, 3) := by decide +kernel
theorem dX7_text_171 : decode cX7_text 171 = .ok (.goto (-29), 3) := by decide +kernel
theorem dX7_text_174 : decode cX7_text 174 = .ok (.iload_n 1, 1) := by decide +kernel
theorem dX7_text_175 : decode cX7_text 175 = .ok (.ireturn, 1) := by decide +kernel
set_option maxRecDepth 20000 in
theorem ggX7_isSpot_X7_within : GoodIn wsX7_isSpot wsX7_within := goodIn_r _ [4] (by decide +kernel) (by decide +kernel)
set_option maxRecDepth 20000 in
theorem gX7_isSpot_X7_within : GoodIn wsX7_isSpot (va_wsS RX7 105 yX7_within wsX7_within) := goodIn_app (goodIn_of _ (by decide +kernel)) ggX7_isSpot_X7_within
theorem dX7_isSpot_0 : decode cX7_isSpot 0 = .ok (.iload_n 0, 1) := by decide +kernel
theorem dX7_isSpot_1 : decode cX7_isSpot 1 = .ok (.iconst 0, 1) := by decide +kernel
theorem dX7_isSpot_2 : decode cX7_isSpot 2 = .ok (.bipush 9, 2) := by decide +kernel
theorem dX7_isSpot_4 : decode cX7_isSpot 4 = .ok (.invokestatic 105, 3) := by decide +kernel
theorem dX7_isSpot_7 : decode cX7_isSpot 7 = .ok (.ireturn, 1) := by decide +kernel
set_option maxRecDepth 20000 in
theorem ggX7_hold_X7_isSpot : GoodIn wsX7_hold wsX7_isSpot := goodIn_r _ [6, 7, 8, 5, 9] (by decide +kernel) (by decide +kernel)
set_option maxRecDepth 20000 in
theorem gX7_hold_X7_isSpot : GoodIn wsX7_hold (va_wsS RX7 367 yX7_isSpot wsX7_isSpot) := goodIn_app (goodIn_of _ (by decide +kernel)) ggX7_hold_X7_isSpot
set_option maxRecDepth 20000 in
theorem ggX7_hold_X7_isSeed : GoodIn wsX7_hold wsX7_isSeed := goodIn_r _ [13, 2, 7, 8, 5, 9, 19, 20, 21, 22, 23, 24, 25, 26, 27, 28, 29, 30, 31, 32, 33, 34, 35, 36, 37, 38, 39, 40, 41, 42, 43, 44, 45] (by decide +kernel) (by decide +kernel)
set_option maxRecDepth 20000 in
theorem gX7_hold_X7_isSeed : GoodIn wsX7_hold (wsV RX7 182 RX7 yX7_isSeed wsX7_isSeed) := goodIn_app (goodIn_of _ (by decide +kernel)) ggX7_hold_X7_isSeed
set_option maxRecDepth 20000 in
theorem ggX7_hold_X7_finding : GoodIn wsX7_hold wsX7_finding := goodIn_r _ [17, 18, 1, 19, 20, 21, 22, 23, 24, 25, 26, 27, 28, 29, 30, 31, 32, 33, 34, 35, 36, 37, 38, 39, 40, 41, 42, 43, 44, 45] (by decide +kernel) (by decide +kernel)
set_option maxRecDepth 20000 in
theorem gX7_hold_X7_finding : GoodIn wsX7_hold (wsV RX7 101 RX7 yX7_finding wsX7_finding) := goodIn_app (goodIn_of _ (by decide +kernel)) ggX7_hold_X7_finding
theorem dX7_hold_0 : decode cX7_hold 0 = .ok (.iload_n 1, 1) := by decide +kernel
theorem dX7_hold_1 : decode cX7_hold 1 = .ok (.invokestatic 367, 3) := by decide +kernel
theorem dX7_hold_4 : decode cX7_hold 4 = .ok (.ifCond .eq 16, 3) := by decide +kernel
theorem dX7_hold_7 : decode cX7_hold 7 = .ok (.iload_n 2, 1) := by decide +kernel
theorem dX7_hold_8 : decode cX7_hold 8 = .ok (.iconst (-1), 1) := by decide +kernel
theorem dX7_hold_9 : decode cX7_hold 9 = .ok (.if_icmp .eq 18, 3) := by decide +kernel
theorem dX7_hold_12 : decode cX7_hold 12 = .ok (.aload_n 0, 1) := by decide +kernel
theorem dX7_hold_13 : decode cX7_hold 13 = .ok (.iload_n 2, 1) := by decide +kernel
theorem dX7_hold_14 : decode cX7_hold 14 = .ok (.invokevirtual 182, 3) := by decide +kernel
theorem dX7_hold_17 : decode cX7_hold 17 = .ok (.ifCond .ne 10, 3) := by decide +kernel
theorem dX7_hold_20 : decode cX7_hold 20 = .ok (.aload_n 0, 1) := by decide +kernel
theorem dX7_hold_21 : decode cX7_hold 21 = .ok (.ldc 95, 2) := by decide +kernel
theorem dX7_hold_23 : decode cX7_hold 23 = .ok (.invokevirtual 101, 3) := by decide +kernel
theorem dX7_hold_26 : decode cX7_hold 26 = .ok (.ireturn, 1) := by decide +kernel
theorem dX7_hold_27 : decode cX7_hold 27 = .ok (.aload_n 0, 1) := by decide +kernel
theorem dX7_hold_28 : decode cX7_hold 28 = .ok (.getfield 9, 3) := by decide +kernel
theorem dX7_hold_31 : decode cX7_hold 31 = .ok (.iconst 3, 1) := by decide +kernel
theorem dX7_hold_32 : decode cX7_hold 32 = .ok (.iload_n 1, 1) := by decide +kernel
theorem dX7_hold_33 : decode cX7_hold 33 = .ok (.iadd, 1) := by decide +kernel
theorem dX7_hold_34 : decode cX7_hold 34 = .ok (.iload_n 2, 1) := by decide +kernel
theorem dX7_hold_35 : decode cX7_hold 35 = .ok (.iastore, 1) := by decide +kernel
theorem dX7_hold_36 : decode cX7_hold 36 = .ok (.iconst 1, 1) := by decide +kernel
theorem dX7_hold_37 : decode cX7_hold 37 = .ok (.ireturn, 1) := by decide +kernel
set_option maxRecDepth 20000 in
theorem ggX7_as_X7_isSpot : GoodIn wsX7_as wsX7_isSpot := goodIn_r _ [8, 9, 10, 7, 11] (by decide +kernel) (by decide +kernel)
set_option maxRecDepth 20000 in
theorem gX7_as_X7_isSpot : GoodIn wsX7_as (va_wsS RX7 367 yX7_isSpot wsX7_isSpot) := goodIn_app (goodIn_of _ (by decide +kernel)) ggX7_as_X7_isSpot
set_option maxRecDepth 20000 in
theorem ggX7_as_X7_isKind : GoodIn wsX7_as wsX7_isKind := goodIn_r _ [14, 9, 10, 7, 11] (by decide +kernel) (by decide +kernel)
set_option maxRecDepth 20000 in
theorem gX7_as_X7_isKind : GoodIn wsX7_as (va_wsS RX7 145 yX7_isKind wsX7_isKind) := goodIn_app (goodIn_of _ (by decide +kernel)) ggX7_as_X7_isKind
set_option maxRecDepth 20000 in
theorem ggX7_as_X7_finding : GoodIn wsX7_as wsX7_finding := goodIn_r _ [18, 19, 1, 33, 34, 35, 36, 37, 38, 39, 40, 41, 42, 43, 44, 45, 46, 47, 48, 49, 50, 51, 52, 53, 54, 55, 56, 57, 58, 59] (by decide +kernel) (by decide +kernel)
set_option maxRecDepth 20000 in
theorem gX7_as_X7_finding : GoodIn wsX7_as (wsV RX7 101 RX7 yX7_finding wsX7_finding) := goodIn_app (goodIn_of _ (by decide +kernel)) ggX7_as_X7_finding
set_option maxRecDepth 20000 in
theorem ggX7_as_X7_seedIs : GoodIn wsX7_as wsX7_seedIs := goodIn_r _ [23, 2, 24, 25, 7, 26, 33, 34, 35, 36, 37, 38, 39, 40, 41, 42, 43, 44, 45, 46, 47, 48, 49, 50, 51, 52, 53, 54, 55, 56, 57, 58, 59] (by decide +kernel) (by decide +kernel)
set_option maxRecDepth 20000 in
theorem gX7_as_X7_seedIs : GoodIn wsX7_as (wsV RX7 129 RX7 yX7_seedIs wsX7_seedIs) := goodIn_app (goodIn_of _ (by decide +kernel)) ggX7_as_X7_seedIs
set_option maxRecDepth 20000 in
theorem ggX7_as_X7_isUnder : GoodIn wsX7_as wsX7_isUnder := goodIn_r _ [29, 30, 31, 7, 32] (by decide +kernel) (by decide +kernel)
set_option maxRecDepth 20000 in
theorem gX7_as_X7_isUnder : GoodIn wsX7_as (va_wsS RX7 370 yX7_isUnder wsX7_isUnder) := goodIn_app (goodIn_of _ (by decide +kernel)) ggX7_as_X7_isUnder
theorem dX7_as_0 : decode cX7_as 0 = .ok (.iload_n 1, 1) := by decide +kernel
theorem dX7_as_1 : decode cX7_as 1 = .ok (.invokestatic 367, 3) := by decide +kernel
theorem dX7_as_4 : decode cX7_as 4 = .ok (.ifCond .eq 10, 3) := by decide +kernel
theorem dX7_as_7 : decode cX7_as 7 = .ok (.iload_n 2, 1) := by decide +kernel
theorem dX7_as_8 : decode cX7_as 8 = .ok (.invokestatic 145, 3) := by decide +kernel
theorem dX7_as_11 : decode cX7_as 11 = .ok (.ifCond .ne 10, 3) := by decide +kernel
theorem dX7_as_14 : decode cX7_as 14 = .ok (.aload_n 0, 1) := by decide +kernel
theorem dX7_as_15 : decode cX7_as 15 = .ok (.ldc 95, 2) := by decide +kernel
theorem dX7_as_17 : decode cX7_as 17 = .ok (.invokevirtual 101, 3) := by decide +kernel
theorem dX7_as_20 : decode cX7_as 20 = .ok (.ireturn, 1) := by decide +kernel
theorem dX7_as_21 : decode cX7_as 21 = .ok (.aload_n 0, 1) := by decide +kernel
theorem dX7_as_22 : decode cX7_as 22 = .ok (.getfield 9, 3) := by decide +kernel
theorem dX7_as_25 : decode cX7_as 25 = .ok (.iconst 3, 1) := by decide +kernel
theorem dX7_as_26 : decode cX7_as 26 = .ok (.iload_n 1, 1) := by decide +kernel
theorem dX7_as_27 : decode cX7_as 27 = .ok (.iadd, 1) := by decide +kernel
theorem dX7_as_28 : decode cX7_as 28 = .ok (.iaload, 1) := by decide +kernel
theorem dX7_as_29 : decode cX7_as 29 = .ok (.istore_n 3, 1) := by decide +kernel
theorem dX7_as_30 : decode cX7_as 30 = .ok (.iload_n 3, 1) := by decide +kernel
theorem dX7_as_31 : decode cX7_as 31 = .ok (.ifCond .ge 11, 3) := by decide +kernel
theorem dX7_as_34 : decode cX7_as 34 = .ok (.aload_n 0, 1) := by decide +kernel
theorem dX7_as_35 : decode cX7_as 35 = .ok (.ldc_w 276, 3) := by decide +kernel
theorem dX7_as_38 : decode cX7_as 38 = .ok (.invokevirtual 101, 3) := by decide +kernel
theorem dX7_as_41 : decode cX7_as 41 = .ok (.ireturn, 1) := by decide +kernel
theorem dX7_as_42 : decode cX7_as 42 = .ok (.aload_n 0, 1) := by decide +kernel
theorem dX7_as_43 : decode cX7_as 43 = .ok (.iload_n 3, 1) := by decide +kernel
theorem dX7_as_44 : decode cX7_as 44 = .ok (.iconst 0, 1) := by decide +kernel
theorem dX7_as_45 : decode cX7_as 45 = .ok (.invokevirtual 129, 3) := by decide +kernel
theorem dX7_as_48 : decode cX7_as 48 = .ok (.iload_n 2, 1) := by decide +kernel
theorem dX7_as_49 : decode cX7_as 49 = .ok (.invokestatic 370, 3) := by decide +kernel
theorem dX7_as_52 : decode cX7_as 52 = .ok (.ifCond .eq 7, 3) := by decide +kernel
theorem dX7_as_55 : decode cX7_as 55 = .ok (.iload_n 3, 1) := by decide +kernel
theorem dX7_as_56 : decode cX7_as 56 = .ok (.goto 10, 3) := by decide +kernel
theorem dX7_as_59 : decode cX7_as 59 = .ok (.aload_n 0, 1) := by decide +kernel
theorem dX7_as_60 : decode cX7_as 60 = .ok (.ldc_w 373, 3) := by decide +kernel
theorem dX7_as_63 : decode cX7_as 63 = .ok (.invokevirtual 101, 3) := by decide +kernel
theorem dX7_as_66 : decode cX7_as 66 = .ok (.ireturn, 1) := by decide +kernel
set_option maxRecDepth 20000 in
theorem ggX7_isSheet_X7_within : GoodIn wsX7_isSheet wsX7_within := goodIn_r _ [4] (by decide +kernel) (by decide +kernel)
set_option maxRecDepth 20000 in
theorem gX7_isSheet_X7_within : GoodIn wsX7_isSheet (va_wsS RX7 105 yX7_within wsX7_within) := goodIn_app (goodIn_of _ (by decide +kernel)) ggX7_isSheet_X7_within
theorem dX7_isSheet_0 : decode cX7_isSheet 0 = .ok (.iload_n 0, 1) := by decide +kernel
theorem dX7_isSheet_1 : decode cX7_isSheet 1 = .ok (.iconst 0, 1) := by decide +kernel
theorem dX7_isSheet_2 : decode cX7_isSheet 2 = .ok (.iconst 3, 1) := by decide +kernel
theorem dX7_isSheet_3 : decode cX7_isSheet 3 = .ok (.invokestatic 105, 3) := by decide +kernel
theorem dX7_isSheet_6 : decode cX7_isSheet 6 = .ok (.ireturn, 1) := by decide +kernel
theorem dX7_cutTo_0 : decode cX7_cutTo 0 = .ok (.iload_n 1, 1) := by decide +kernel
theorem dX7_cutTo_1 : decode cX7_cutTo 1 = .ok (.bipush 8, 2) := by decide +kernel
theorem dX7_cutTo_3 : decode cX7_cutTo 3 = .ok (.if_icmp .ne 8, 3) := by decide +kernel
theorem dX7_cutTo_6 : decode cX7_cutTo 6 = .ok (.iload_n 0, 1) := by decide +kernel
theorem dX7_cutTo_7 : decode cX7_cutTo 7 = .ok (.i2b, 1) := by decide +kernel
theorem dX7_cutTo_8 : decode cX7_cutTo 8 = .ok (.goto 15, 3) := by decide +kernel
theorem dX7_cutTo_11 : decode cX7_cutTo 11 = .ok (.iload_n 1, 1) := by decide +kernel
theorem dX7_cutTo_12 : decode cX7_cutTo 12 = .ok (.bipush 16, 2) := by decide +kernel
theorem dX7_cutTo_14 : decode cX7_cutTo 14 = .ok (.if_icmp .ne 8, 3) := by decide +kernel
theorem dX7_cutTo_17 : decode cX7_cutTo 17 = .ok (.iload_n 0, 1) := by decide +kernel
theorem dX7_cutTo_18 : decode cX7_cutTo 18 = .ok (.i2s, 1) := by decide +kernel
theorem dX7_cutTo_19 : decode cX7_cutTo 19 = .ok (.goto 4, 3) := by decide +kernel
theorem dX7_cutTo_22 : decode cX7_cutTo 22 = .ok (.iload_n 0, 1) := by decide +kernel
theorem dX7_cutTo_23 : decode cX7_cutTo 23 = .ok (.ireturn, 1) := by decide +kernel
set_option maxRecDepth 20000 in
theorem ggX7_sheet_X7_isSheet : GoodIn wsX7_sheet wsX7_isSheet := goodIn_r _ [9, 10, 11, 8, 12] (by decide +kernel) (by decide +kernel)
set_option maxRecDepth 20000 in
theorem gX7_sheet_X7_isSheet : GoodIn wsX7_sheet (va_wsS RX7 273 yX7_isSheet wsX7_isSheet) := goodIn_app (goodIn_of _ (by decide +kernel)) ggX7_sheet_X7_isSheet
set_option maxRecDepth 20000 in
theorem ggX7_sheet_X7_finding : GoodIn wsX7_sheet wsX7_finding := goodIn_r _ [16, 17, 1, 18, 19, 20, 21, 22, 23, 24, 25, 26, 27, 28, 29, 30, 31, 32, 33, 34, 35, 36, 37, 38, 39, 40, 41, 42, 43, 44] (by decide +kernel) (by decide +kernel)
set_option maxRecDepth 20000 in
theorem gX7_sheet_X7_finding : GoodIn wsX7_sheet (wsV RX7 101 RX7 yX7_finding wsX7_finding) := goodIn_app (goodIn_of _ (by decide +kernel)) ggX7_sheet_X7_finding
theorem dX7_sheet_0 : decode cX7_sheet 0 = .ok (.iload_n 1, 1) := by decide +kernel
theorem dX7_sheet_1 : decode cX7_sheet 1 = .ok (.invokestatic 273, 3) := by decide +kernel
theorem dX7_sheet_4 : decode cX7_sheet 4 = .ok (.ifCond .eq 25, 3) := by decide +kernel
theorem dX7_sheet_7 : decode cX7_sheet 7 = .ok (.iload_n 2, 1) := by decide +kernel
theorem dX7_sheet_8 : decode cX7_sheet 8 = .ok (.ifCond .eq 28, 3) := by decide +kernel
theorem dX7_sheet_11 : decode cX7_sheet 11 = .ok (.iload_n 2, 1) := by decide +kernel
theorem dX7_sheet_12 : decode cX7_sheet 12 = .ok (.bipush 8, 2) := by decide +kernel
theorem dX7_sheet_14 : decode cX7_sheet 14 = .ok (.if_icmp .eq 22, 3) := by decide +kernel
theorem dX7_sheet_17 : decode cX7_sheet 17 = .ok (.iload_n 2, 1) := by decide +kernel
theorem dX7_sheet_18 : decode cX7_sheet 18 = .ok (.bipush 16, 2) := by decide +kernel
theorem dX7_sheet_20 : decode cX7_sheet 20 = .ok (.if_icmp .eq 16, 3) := by decide +kernel
theorem dX7_sheet_23 : decode cX7_sheet 23 = .ok (.iload_n 2, 1) := by decide +kernel
theorem dX7_sheet_24 : decode cX7_sheet 24 = .ok (.bipush 32, 2) := by decide +kernel
theorem dX7_sheet_26 : decode cX7_sheet 26 = .ok (.if_icmp .eq 10, 3) := by decide +kernel
theorem dX7_sheet_29 : decode cX7_sheet 29 = .ok (.aload_n 0, 1) := by decide +kernel
theorem dX7_sheet_30 : decode cX7_sheet 30 = .ok (.ldc 95, 2) := by decide +kernel
theorem dX7_sheet_32 : decode cX7_sheet 32 = .ok (.invokevirtual 101, 3) := by decide +kernel
theorem dX7_sheet_35 : decode cX7_sheet 35 = .ok (.ireturn, 1) := by decide +kernel
theorem dX7_sheet_36 : decode cX7_sheet 36 = .ok (.iload_n 3, 1) := by decide +kernel
theorem dX7_sheet_37 : decode cX7_sheet 37 = .ok (.ifCond .ge 11, 3) := by decide +kernel
theorem dX7_sheet_40 : decode cX7_sheet 40 = .ok (.aload_n 0, 1) := by decide +kernel
theorem dX7_sheet_41 : decode cX7_sheet 41 = .ok (.ldc_w 374, 3) := by decide +kernel
theorem dX7_sheet_44 : decode cX7_sheet 44 = .ok (.invokevirtual 101, 3) := by decide +kernel
theorem dX7_sheet_47 : decode cX7_sheet 47 = .ok (.ireturn, 1) := by decide +kernel
theorem dX7_sheet_48 : decode cX7_sheet 48 = .ok (.iload_n 3, 1) := by decide +kernel
theorem dX7_sheet_49 : decode cX7_sheet 49 = .ok (.bipush 40, 2) := by decide +kernel
theorem dX7_sheet_51 : decode cX7_sheet 51 = .ok (.if_icmp .le 10, 3) := by decide +kernel
theorem dX7_sheet_54 : decode cX7_sheet 54 = .ok (.aload_n 0, 1) := by decide +kernel
theorem dX7_sheet_55 : decode cX7_sheet 55 = .ok (.ldc 95, 2) := by decide +kernel
theorem dX7_sheet_57 : decode cX7_sheet 57 = .ok (.invokevirtual 101, 3) := by decide +kernel
theorem dX7_sheet_60 : decode cX7_sheet 60 = .ok (.ireturn, 1) := by decide +kernel
theorem dX7_sheet_61 : decode cX7_sheet 61 = .ok (.aload_n 0, 1) := by decide +kernel
theorem dX7_sheet_62 : decode cX7_sheet 62 = .ok (.getfield 83, 3) := by decide +kernel
theorem dX7_sheet_65 : decode cX7_sheet 65 = .ok (.iload_n 1, 1) := by decide +kernel
theorem dX7_sheet_66 : decode cX7_sheet 66 = .ok (.iload_n 2, 1) := by decide +kernel
theorem dX7_sheet_67 : decode cX7_sheet 67 = .ok (.iastore, 1) := by decide +kernel
theorem dX7_sheet_68 : decode cX7_sheet 68 = .ok (.aload_n 0, 1) := by decide +kernel
theorem dX7_sheet_69 : decode cX7_sheet 69 = .ok (.getfield 86, 3) := by decide +kernel
theorem dX7_sheet_72 : decode cX7_sheet 72 = .ok (.iload_n 1, 1) := by decide +kernel
theorem dX7_sheet_73 : decode cX7_sheet 73 = .ok (.iload_n 2, 1) := by decide +kernel
theorem dX7_sheet_74 : decode cX7_sheet 74 = .ok (.ifCond .ne 7, 3) := by decide +kernel
theorem dX7_sheet_77 : decode cX7_sheet 77 = .ok (.iconst 0, 1) := by decide +kernel
theorem dX7_sheet_78 : decode cX7_sheet 78 = .ok (.goto 4, 3) := by decide +kernel
theorem dX7_sheet_81 : decode cX7_sheet 81 = .ok (.iload_n 3, 1) := by decide +kernel
theorem dX7_sheet_82 : decode cX7_sheet 82 = .ok (.iastore, 1) := by decide +kernel
theorem dX7_sheet_83 : decode cX7_sheet 83 = .ok (.iconst 0, 1) := by decide +kernel
theorem dX7_sheet_84 : decode cX7_sheet 84 = .ok (.istore 4, 2) := by decide +kernel
theorem dX7_sheet_86 : decode cX7_sheet 86 = .ok (.iload 4, 2) := by decide +kernel
theorem dX7_sheet_88 : decode cX7_sheet 88 = .ok (.bipush 40, 2) := by decide +kernel
theorem dX7_sheet_90 : decode cX7_sheet 90 = .ok (.if_icmp .ge 22, 3) := by decide +kernel
theorem dX7_sheet_93 : decode cX7_sheet 93 = .ok (.aload_n 0, 1) := by decide +kernel
theorem dX7_sheet_94 : decode cX7_sheet 94 = .ok (.getfield 89, 3) := by decide +kernel
theorem dX7_sheet_97 : decode cX7_sheet 97 = .ok (.bipush 40, 2) := by decide +kernel
theorem dX7_sheet_99 : decode cX7_sheet 99 = .ok (.iload_n 1, 1) := by decide +kernel
theorem dX7_sheet_100 : decode cX7_sheet 100 = .ok (.imul, 1) := by decide +kernel
theorem dX7_sheet_101 : decode cX7_sheet 101 = .ok (.iload 4, 2) := by decide +kernel
theorem dX7_sheet_103 : decode cX7_sheet 103 = .ok (.iadd, 1) := by decide +kernel
theorem dX7_sheet_104 : decode cX7_sheet 104 = .ok (.iconst 0, 1) := by decide +kernel
theorem dX7_sheet_105 : decode cX7_sheet 105 = .ok (.iastore, 1) := by decide +kernel
theorem dX7_sheet_106 : decode cX7_sheet 106 = .ok (.iinc 4 1, 3) := by decide +kernel
theorem dX7_sheet_109 : decode cX7_sheet 109 = .ok (.goto (-23), 3) := by decide +kernel
theorem dX7_sheet_112 : decode cX7_sheet 112 = .ok (.aload_n 0, 1) := by decide +kernel
theorem dX7_sheet_113 : decode cX7_sheet 113 = .ok (.getfield 86, 3) := by decide +kernel
theorem dX7_sheet_116 : decode cX7_sheet 116 = .ok (.iload_n 1, 1) := by decide +kernel
theorem dX7_sheet_117 : decode cX7_sheet 117 = .ok (.iaload, 1) := by decide +kernel
theorem dX7_sheet_118 : decode cX7_sheet 118 = .ok (.ireturn, 1) := by decide +kernel
set_option maxRecDepth 20000 in
theorem ggX7_write_X7_isSheet : GoodIn wsX7_write wsX7_isSheet := goodIn_r _ [9, 10, 11, 8, 12] (by decide +kernel) (by decide +kernel)
set_option maxRecDepth 20000 in
theorem gX7_write_X7_isSheet : GoodIn wsX7_write (va_wsS RX7 273 yX7_isSheet wsX7_isSheet) := goodIn_app (goodIn_of _ (by decide +kernel)) ggX7_write_X7_isSheet
set_option maxRecDepth 20000 in
theorem ggX7_write_X7_finding : GoodIn wsX7_write wsX7_finding := goodIn_r _ [16, 17, 1, 21, 22, 23, 24, 25, 26, 27, 28, 29, 30, 31, 32, 33, 34, 35, 36, 37, 38, 39, 40, 41, 42, 43, 44, 45, 46, 47] (by decide +kernel) (by decide +kernel)
set_option maxRecDepth 20000 in
theorem gX7_write_X7_finding : GoodIn wsX7_write (wsV RX7 101 RX7 yX7_finding wsX7_finding) := goodIn_app (goodIn_of _ (by decide +kernel)) ggX7_write_X7_finding
set_option maxRecDepth 20000 in
theorem ggX7_write_X7_within : GoodIn wsX7_write wsX7_within := goodIn_r _ [12] (by decide +kernel) (by decide +kernel)
set_option maxRecDepth 20000 in
theorem gX7_write_X7_within : GoodIn wsX7_write (va_wsS RX7 105 yX7_within wsX7_within) := goodIn_app (goodIn_of _ (by decide +kernel)) ggX7_write_X7_within
set_option maxRecDepth 20000 in
theorem ggX7_write_X7_cutTo : GoodIn wsX7_write wsX7_cutTo := goodIn_r _ [20] (by decide +kernel) (by decide +kernel)
set_option maxRecDepth 20000 in
theorem gX7_write_X7_cutTo : GoodIn wsX7_write (va_wsS RX7 375 yX7_cutTo wsX7_cutTo) := goodIn_app (goodIn_of _ (by decide +kernel)) ggX7_write_X7_cutTo
theorem dX7_write_0 : decode cX7_write 0 = .ok (.iload_n 1, 1) := by decide +kernel
theorem dX7_write_1 : decode cX7_write 1 = .ok (.invokestatic 273, 3) := by decide +kernel
theorem dX7_write_4 : decode cX7_write 4 = .ok (.ifCond .ne 10, 3) := by decide +kernel
theorem dX7_write_7 : decode cX7_write 7 = .ok (.aload_n 0, 1) := by decide +kernel
theorem dX7_write_8 : decode cX7_write 8 = .ok (.ldc 95, 2) := by decide +kernel
theorem dX7_write_10 : decode cX7_write 10 = .ok (.invokevirtual 101, 3) := by decide +kernel
theorem dX7_write_13 : decode cX7_write 13 = .ok (.ireturn, 1) := by decide +kernel
theorem dX7_write_14 : decode cX7_write 14 = .ok (.aload_n 0, 1) := by decide +kernel
theorem dX7_write_15 : decode cX7_write 15 = .ok (.getfield 83, 3) := by decide +kernel
theorem dX7_write_18 : decode cX7_write 18 = .ok (.iload_n 1, 1) := by decide +kernel
theorem dX7_write_19 : decode cX7_write 19 = .ok (.iaload, 1) := by decide +kernel
theorem dX7_write_20 : decode cX7_write 20 = .ok (.ifCond .ne 11, 3) := by decide +kernel
theorem dX7_write_23 : decode cX7_write 23 = .ok (.aload_n 0, 1) := by decide +kernel
theorem dX7_write_24 : decode cX7_write 24 = .ok (.ldc_w 276, 3) := by decide +kernel
theorem dX7_write_27 : decode cX7_write 27 = .ok (.invokevirtual 101, 3) := by decide +kernel
theorem dX7_write_30 : decode cX7_write 30 = .ok (.ireturn, 1) := by decide +kernel
theorem dX7_write_31 : decode cX7_write 31 = .ok (.iload_n 2, 1) := by decide +kernel
theorem dX7_write_32 : decode cX7_write 32 = .ok (.iconst 0, 1) := by decide +kernel
theorem dX7_write_33 : decode cX7_write 33 = .ok (.aload_n 0, 1) := by decide +kernel
theorem dX7_write_34 : decode cX7_write 34 = .ok (.getfield 86, 3) := by decide +kernel
theorem dX7_write_37 : decode cX7_write 37 = .ok (.iload_n 1, 1) := by decide +kernel
theorem dX7_write_38 : decode cX7_write 38 = .ok (.iaload, 1) := by decide +kernel
theorem dX7_write_39 : decode cX7_write 39 = .ok (.iconst 1, 1) := by decide +kernel
theorem dX7_write_40 : decode cX7_write 40 = .ok (.isub, 1) := by decide +kernel
theorem dX7_write_41 : decode cX7_write 41 = .ok (.invokestatic 105, 3) := by decide +kernel
theorem dX7_write_44 : decode cX7_write 44 = .ok (.ifCond .ne 10, 3) := by decide +kernel
theorem dX7_write_47 : decode cX7_write 47 = .ok (.aload_n 0, 1) := by decide +kernel
theorem dX7_write_48 : decode cX7_write 48 = .ok (.ldc 95, 2) := by decide +kernel
theorem dX7_write_50 : decode cX7_write 50 = .ok (.invokevirtual 101, 3) := by decide +kernel
theorem dX7_write_53 : decode cX7_write 53 = .ok (.ireturn, 1) := by decide +kernel
theorem dX7_write_54 : decode cX7_write 54 = .ok (.aload_n 0, 1) := by decide +kernel
theorem dX7_write_55 : decode cX7_write 55 = .ok (.getfield 89, 3) := by decide +kernel
theorem dX7_write_58 : decode cX7_write 58 = .ok (.bipush 40, 2) := by decide +kernel
theorem dX7_write_60 : decode cX7_write 60 = .ok (.iload_n 1, 1) := by decide +kernel
theorem dX7_write_61 : decode cX7_write 61 = .ok (.imul, 1) := by decide +kernel
theorem dX7_write_62 : decode cX7_write 62 = .ok (.iload_n 2, 1) := by decide +kernel
theorem dX7_write_63 : decode cX7_write 63 = .ok (.iadd, 1) := by decide +kernel
theorem dX7_write_64 : decode cX7_write 64 = .ok (.iload_n 3, 1) := by decide +kernel
theorem dX7_write_65 : decode cX7_write 65 = .ok (.aload_n 0, 1) := by decide +kernel
theorem dX7_write_66 : decode cX7_write 66 = .ok (.getfield 83, 3) := by decide +kernel
theorem dX7_write_69 : decode cX7_write 69 = .ok (.iload_n 1, 1) := by decide +kernel
theorem dX7_write_70 : decode cX7_write 70 = .ok (.iaload, 1) := by decide +kernel
theorem dX7_write_71 : decode cX7_write 71 = .ok (.invokestatic 375, 3) := by decide +kernel
theorem dX7_write_74 : decode cX7_write 74 = .ok (.iastore, 1) := by decide +kernel
theorem dX7_write_75 : decode cX7_write 75 = .ok (.iconst 1, 1) := by decide +kernel
theorem dX7_write_76 : decode cX7_write 76 = .ok (.ireturn, 1) := by decide +kernel
set_option maxRecDepth 20000 in
theorem ggX7_copy_X7_isSheet : GoodIn wsX7_copy wsX7_isSheet := goodIn_r _ [11, 12, 13, 10, 14] (by decide +kernel) (by decide +kernel)
set_option maxRecDepth 20000 in
theorem gX7_copy_X7_isSheet : GoodIn wsX7_copy (va_wsS RX7 273 yX7_isSheet wsX7_isSheet) := goodIn_app (goodIn_of _ (by decide +kernel)) ggX7_copy_X7_isSheet
set_option maxRecDepth 20000 in
theorem ggX7_copy_X7_finding : GoodIn wsX7_copy wsX7_finding := goodIn_r _ [18, 19, 1, 20, 21, 22, 23, 24, 25, 26, 27, 28, 29, 30, 31, 32, 33, 34, 35, 36, 37, 38, 39, 40, 41, 42, 43, 44, 45, 46] (by decide +kernel) (by decide +kernel)
set_option maxRecDepth 20000 in
theorem gX7_copy_X7_finding : GoodIn wsX7_copy (wsV RX7 101 RX7 yX7_finding wsX7_finding) := goodIn_app (goodIn_of _ (by decide +kernel)) ggX7_copy_X7_finding
theorem dX7_copy_0 : decode cX7_copy 0 = .ok (.iload_n 1, 1) := by decide +kernel
theorem dX7_copy_1 : decode cX7_copy 1 = .ok (.invokestatic 273, 3) := by decide +kernel
theorem dX7_copy_4 : decode cX7_copy 4 = .ok (.ifCond .eq 10, 3) := by decide +kernel
theorem dX7_copy_7 : decode cX7_copy 7 = .ok (.iload_n 3, 1) := by decide +kernel
theorem dX7_copy_8 : decode cX7_copy 8 = .ok (.invokestatic 273, 3) := by decide +kernel
theorem dX7_copy_11 : decode cX7_copy 11 = .ok (.ifCond .ne 10, 3) := by decide +kernel
theorem dX7_copy_14 : decode cX7_copy 14 = .ok (.aload_n 0, 1) := by decide +kernel
theorem dX7_copy_15 : decode cX7_copy 15 = .ok (.ldc 95, 2) := by decide +kernel
theorem dX7_copy_17 : decode cX7_copy 17 = .ok (.invokevirtual 101, 3) := by decide +kernel
theorem dX7_copy_20 : decode cX7_copy 20 = .ok (.ireturn, 1) := by decide +kernel
theorem dX7_copy_21 : decode cX7_copy 21 = .ok (.aload_n 0, 1) := by decide +kernel
theorem dX7_copy_22 : decode cX7_copy 22 = .ok (.getfield 83, 3) := by decide +kernel
theorem dX7_copy_25 : decode cX7_copy 25 = .ok (.iload_n 1, 1) := by decide +kernel
theorem dX7_copy_26 : decode cX7_copy 26 = .ok (.iaload, 1) := by decide +kernel
theorem dX7_copy_27 : decode cX7_copy 27 = .ok (.ifCond .eq 12, 3) := by decide +kernel
theorem dX7_copy_30 : decode cX7_copy 30 = .ok (.aload_n 0, 1) := by decide +kernel
theorem dX7_copy_31 : decode cX7_copy 31 = .ok (.getfield 83, 3) := by decide +kernel
theorem dX7_copy_34 : decode cX7_copy 34 = .ok (.iload_n 3, 1) := by decide +kernel
theorem dX7_copy_35 : decode cX7_copy 35 = .ok (.iaload, 1) := by decide +kernel
theorem dX7_copy_36 : decode cX7_copy 36 = .ok (.ifCond .ne 11, 3) := by decide +kernel
theorem dX7_copy_39 : decode cX7_copy 39 = .ok (.aload_n 0, 1) := by decide +kernel
theorem dX7_copy_40 : decode cX7_copy 40 = .ok (.ldc_w 276, 3) := by decide +kernel
theorem dX7_copy_43 : decode cX7_copy 43 = .ok (.invokevirtual 101, 3) := by decide +kernel
theorem dX7_copy_46 : decode cX7_copy 46 = .ok (.ireturn, 1) := by decide +kernel
theorem dX7_copy_47 : decode cX7_copy 47 = .ok (.aload_n 0, 1) := by decide +kernel
theorem dX7_copy_48 : decode cX7_copy 48 = .ok (.getfield 83, 3) := by decide +kernel
theorem dX7_copy_51 : decode cX7_copy 51 = .ok (.iload_n 1, 1) := by decide +kernel
theorem dX7_copy_52 : decode cX7_copy 52 = .ok (.iaload, 1) := by decide +kernel
theorem dX7_copy_53 : decode cX7_copy 53 = .ok (.aload_n 0, 1) := by decide +kernel
theorem dX7_copy_54 : decode cX7_copy 54 = .ok (.getfield 83, 3) := by decide +kernel
theorem dX7_copy_57 : decode cX7_copy 57 = .ok (.iload_n 3, 1) := by decide +kernel
theorem dX7_copy_58 : decode cX7_copy 58 = .ok (.iaload, 1) := by decide +kernel
theorem dX7_copy_59 : decode cX7_copy 59 = .ok (.if_icmp .eq 11, 3) := by decide +kernel
theorem dX7_copy_62 : decode cX7_copy 62 = .ok (.aload_n 0, 1) := by decide +kernel
theorem dX7_copy_63 : decode cX7_copy 63 = .ok (.ldc_w 373, 3) := by decide +kernel
theorem dX7_copy_66 : decode cX7_copy 66 = .ok (.invokevirtual 101, 3) := by decide +kernel
theorem dX7_copy_69 : decode cX7_copy 69 = .ok (.ireturn, 1) := by decide +kernel
theorem dX7_copy_70 : decode cX7_copy 70 = .ok (.iload_n 2, 1) := by decide +kernel
theorem dX7_copy_71 : decode cX7_copy 71 = .ok (.ifCond .lt 48, 3) := by decide +kernel
theorem dX7_copy_74 : decode cX7_copy 74 = .ok (.iload 4, 2) := by decide +kernel
theorem dX7_copy_76 : decode cX7_copy 76 = .ok (.ifCond .lt 43, 3) := by decide +kernel
theorem dX7_copy_79 : decode cX7_copy 79 = .ok (.iload 5, 2) := by decide +kernel
theorem dX7_copy_81 : decode cX7_copy 81 = .ok (.ifCond .lt 38, 3) := by decide +kernel
theorem dX7_copy_84 : decode cX7_copy 84 = .ok (.iload_n 2, 1) := by decide +kernel
theorem dX7_copy_85 : decode cX7_copy 85 = .ok (.i2l, 1) := by decide +kernel
theorem dX7_copy_86 : decode cX7_copy 86 = .ok (.iload 5, 2) := by decide +kernel
theorem dX7_copy_88 : decode cX7_copy 88 = .ok (.i2l, 1) := by decide +kernel
theorem dX7_copy_89 : decode cX7_copy 89 = .ok (.ladd, 1) := by decide +kernel
theorem dX7_copy_90 : decode cX7_copy 90 = .ok (.aload_n 0, 1) := by decide +kernel
theorem dX7_copy_91 : decode cX7_copy 91 = .ok (.getfield 86, 3) := by decide +kernel
theorem dX7_copy_94 : decode cX7_copy 94 = .ok (.iload_n 1, 1) := by decide +kernel
theorem dX7_copy_95 : decode cX7_copy 95 = .ok (.iaload, 1) := by decide +kernel
theorem dX7_copy_96 : decode cX7_copy 96 = .ok (.i2l, 1) := by decide +kernel
theorem dX7_copy_97 : decode cX7_copy 97 = .ok (.lcmp, 1) := by decide +kernel
theorem dX7_copy_98 : decode cX7_copy 98 = .ok (.ifCond .gt 21, 3) := by decide +kernel
theorem dX7_copy_101 : decode cX7_copy 101 = .ok (.iload 4, 2) := by decide +kernel
theorem dX7_copy_103 : decode cX7_copy 103 = .ok (.i2l, 1) := by decide +kernel
theorem dX7_copy_104 : decode cX7_copy 104 = .ok (.iload 5, 2) := by decide +kernel
theorem dX7_copy_106 : decode cX7_copy 106 = .ok (.i2l, 1) := by decide +kernel
theorem dX7_copy_107 : decode cX7_copy 107 = .ok (.ladd, 1) := by decide +kernel
theorem dX7_copy_108 : decode cX7_copy 108 = .ok (.aload_n 0, 1) := by decide +kernel
theorem dX7_copy_109 : decode cX7_copy 109 = .ok (.getfield 86, 3) := by decide +kernel
theorem dX7_copy_112 : decode cX7_copy 112 = .ok (.iload_n 3, 1) := by decide +kernel
theorem dX7_copy_113 : decode cX7_copy 113 = .ok (.iaload, 1) := by decide +kernel
theorem dX7_copy_114 : decode cX7_copy 114 = .ok (.i2l, 1) := by decide +kernel
theorem dX7_copy_115 : decode cX7_copy 115 = .ok (.lcmp, 1) := by decide +kernel
theorem dX7_copy_116 : decode cX7_copy 116 = .ok (.ifCond .le 10, 3) := by decide +kernel
theorem dX7_copy_119 : decode cX7_copy 119 = .ok (.aload_n 0, 1) := by decide +kernel
theorem dX7_copy_120 : decode cX7_copy 120 = .ok (.ldc 95, 2) := by decide +kernel
theorem dX7_copy_122 : decode cX7_copy 122 = .ok (.invokevirtual 101, 3) := by decide +kernel
theorem dX7_copy_125 : decode cX7_copy 125 = .ok (.ireturn, 1) := by decide +kernel
theorem dX7_copy_126 : decode cX7_copy 126 = .ok (.iconst 0, 1) := by decide +kernel
theorem dX7_copy_127 : decode cX7_copy 127 = .ok (.istore 6, 2) := by decide +kernel
theorem dX7_copy_129 : decode cX7_copy 129 = .ok (.iload 6, 2) := by decide +kernel
theorem dX7_copy_131 : decode cX7_copy 131 = .ok (.iload 5, 2) := by decide +kernel
theorem dX7_copy_133 : decode cX7_copy 133 = .ok (.if_icmp .ge 30, 3) := by decide +kernel
theorem dX7_copy_136 : decode cX7_copy 136 = .ok (.aload_n 0, 1) := by decide +kernel
theorem dX7_copy_137 : decode cX7_copy 137 = .ok (.getfield 92, 3) := by decide +kernel
theorem dX7_copy_140 : decode cX7_copy 140 = .ok (.iload 6, 2) := by decide +kernel
theorem dX7_copy_142 : decode cX7_copy 142 = .ok (.aload_n 0, 1) := by decide +kernel
theorem dX7_copy_143 : decode cX7_copy 143 = .ok (.getfield 89, 3) := by decide +kernel
theorem dX7_copy_146 : decode cX7_copy 146 = .ok (.bipush 40, 2) := by decide +kernel
theorem dX7_copy_148 : decode cX7_copy 148 = .ok (.iload_n 1, 1) := by decide +kernel
theorem dX7_copy_149 : decode cX7_copy 149 = .ok (.imul, 1) := by decide +kernel
theorem dX7_copy_150 : decode cX7_copy 150 = .ok (.iload_n 2, 1) := by decide +kernel
theorem dX7_copy_151 : decode cX7_copy 151 = .ok (.iadd, 1) := by decide +kernel
theorem dX7_copy_152 : decode cX7_copy 152 = .ok (.iload 6, 2) := by decide +kernel
theorem dX7_copy_154 : decode cX7_copy 154 = .ok (.iadd, 1) := by decide +kernel
theorem dX7_copy_155 : decode cX7_copy 155 = .ok (.iaload, 1) := by decide +kernel
theorem dX7_copy_156 : decode cX7_copy 156 = .ok (.iastore, 1) := by decide +kernel
theorem dX7_copy_157 : decode cX7_copy 157 = .ok (.iinc 6 1, 3) := by decide +kernel
theorem dX7_copy_160 : decode cX7_copy 160 = .ok (.goto (-31), 3) := by decide +kernel
theorem dX7_copy_163 : decode cX7_copy 163 = .ok (.iconst 0, 1) := by decide +kernel
theorem dX7_copy_164 : decode cX7_copy 164 = .ok (.istore 6, 2) := by decide +kernel
theorem dX7_copy_166 : decode cX7_copy 166 = .ok (.iload 6, 2) := by decide +kernel
theorem dX7_copy_168 : decode cX7_copy 168 = .ok (.iload 5, 2) := by decide +kernel
theorem dX7_copy_170 : decode cX7_copy 170 = .ok (.if_icmp .ge 31, 3) := by decide +kernel
theorem dX7_copy_173 : decode cX7_copy 173 = .ok (.aload_n 0, 1) := by decide +kernel
theorem dX7_copy_174 : decode cX7_copy 174 = .ok (.getfield 89, 3) := by decide +kernel
theorem dX7_copy_177 : decode cX7_copy 177 = .ok (.bipush 40, 2) := by decide +kernel
theorem dX7_copy_179 : decode cX7_copy 179 = .ok (.iload_n 3, 1) := by decide +kernel
theorem dX7_copy_180 : decode cX7_copy 180 = .ok (.imul, 1) := by decide +kernel
theorem dX7_copy_181 : decode cX7_copy 181 = .ok (.iload 4, 2) := by decide +kernel
theorem dX7_copy_183 : decode cX7_copy 183 = .ok (.iadd, 1) := by decide +kernel
theorem dX7_copy_184 : decode cX7_copy 184 = .ok (.iload 6, 2) := by decide +kernel
theorem dX7_copy_186 : decode cX7_copy 186 = .ok (.iadd, 1) := by decide +kernel
theorem dX7_copy_187 : decode cX7_copy 187 = .ok (.aload_n 0, 1) := by decide +kernel
theorem dX7_copy_188 : decode cX7_copy 188 = .ok (.getfield 92, 3) := by decide +kernel
theorem dX7_copy_191 : decode cX7_copy 191 = .ok (.iload 6, 2) := by decide +kernel
theorem dX7_copy_193 : decode cX7_copy 193 = .ok (.iaload, 1) := by decide +kernel
theorem dX7_copy_194 : decode cX7_copy 194 = .ok (.iastore, 1) := by decide +kernel
theorem dX7_copy_195 : decode cX7_copy 195 = .ok (.iinc 6 1, 3) := by decide +kernel
theorem dX7_copy_198 : decode cX7_copy 198 = .ok (.goto (-32), 3) := by decide +kernel
theorem dX7_copy_201 : decode cX7_copy 201 = .ok (.iload 5, 2) := by decide +kernel
theorem dX7_copy_203 : decode cX7_copy 203 = .ok (.ireturn, 1) := by decide +kernel
theorem dX7_above_0 : decode cX7_above 0 = .ok (.iload_n 0, 1) := by decide +kernel
theorem dX7_above_1 : decode cX7_above 1 = .ok (.ifCond .ne 7, 3) := by decide +kernel
theorem dX7_above_4 : decode cX7_above 4 = .ok (.iconst (-1), 1) := by decide +kernel
theorem dX7_above_5 : decode cX7_above 5 = .ok (.goto 32, 3) := by decide +kernel
theorem dX7_above_8 : decode cX7_above 8 = .ok (.iload_n 0, 1) := by decide +kernel
theorem dX7_above_9 : decode cX7_above 9 = .ok (.iconst 3, 1) := by decide +kernel
theorem dX7_above_10 : decode cX7_above 10 = .ok (.if_icmp .ne 7, 3) := by decide +kernel
theorem dX7_above_13 : decode cX7_above 13 = .ok (.iconst 2, 1) := by decide +kernel
theorem dX7_above_14 : decode cX7_above 14 = .ok (.goto 23, 3) := by decide +kernel
theorem dX7_above_17 : decode cX7_above 17 = .ok (.iload_n 0, 1) := by decide +kernel
theorem dX7_above_18 : decode cX7_above 18 = .ok (.iconst 4, 1) := by decide +kernel
theorem dX7_above_19 : decode cX7_above 19 = .ok (.if_icmp .ne 7, 3) := by decide +kernel
theorem dX7_above_22 : decode cX7_above 22 = .ok (.iconst 3, 1) := by decide +kernel
theorem dX7_above_23 : decode cX7_above 23 = .ok (.goto 14, 3) := by decide +kernel
theorem dX7_above_26 : decode cX7_above 26 = .ok (.iload_n 0, 1) := by decide +kernel
theorem dX7_above_27 : decode cX7_above 27 = .ok (.bipush 6, 2) := by decide +kernel
theorem dX7_above_29 : decode cX7_above 29 = .ok (.if_icmp .ne 7, 3) := by decide +kernel
theorem dX7_above_32 : decode cX7_above 32 = .ok (.iconst 1, 1) := by decide +kernel
theorem dX7_above_33 : decode cX7_above 33 = .ok (.goto 4, 3) := by decide +kernel
theorem dX7_above_36 : decode cX7_above 36 = .ok (.iconst 0, 1) := by decide +kernel
theorem dX7_above_37 : decode cX7_above 37 = .ok (.ireturn, 1) := by decide +kernel
set_option maxRecDepth 20000 in
theorem ggX7_isUnder_X7_above : GoodIn wsX7_isUnder wsX7_above := goodIn_r _ [4] (by decide +kernel) (by decide +kernel)
set_option maxRecDepth 20000 in
theorem gX7_isUnder_X7_above : GoodIn wsX7_isUnder (va_wsS RX7 378 yX7_above wsX7_above) := goodIn_app (goodIn_of _ (by decide +kernel)) ggX7_isUnder_X7_above
theorem dX7_isUnder_0 : decode cX7_isUnder 0 = .ok (.iload_n 0, 1) := by decide +kernel
theorem dX7_isUnder_1 : decode cX7_isUnder 1 = .ok (.istore_n 2, 1) := by decide +kernel
theorem dX7_isUnder_2 : decode cX7_isUnder 2 = .ok (.iload_n 2, 1) := by decide +kernel
theorem dX7_isUnder_3 : decode cX7_isUnder 3 = .ok (.ifCond .lt 16, 3) := by decide +kernel
theorem dX7_isUnder_6 : decode cX7_isUnder 6 = .ok (.iload_n 2, 1) := by decide +kernel
theorem dX7_isUnder_7 : decode cX7_isUnder 7 = .ok (.iload_n 1, 1) := by decide +kernel
theorem dX7_isUnder_8 : decode cX7_isUnder 8 = .ok (.if_icmp .eq 11, 3) := by decide +kernel
theorem dX7_isUnder_11 : decode cX7_isUnder 11 = .ok (.iload_n 2, 1) := by decide +kernel
theorem dX7_isUnder_12 : decode cX7_isUnder 12 = .ok (.invokestatic 378, 3) := by decide +kernel
theorem dX7_isUnder_15 : decode cX7_isUnder 15 = .ok (.istore_n 2, 1) := by decide +kernel
theorem dX7_isUnder_16 : decode cX7_isUnder 16 = .ok (.goto (-14), 3) := by decide +kernel
theorem dX7_isUnder_19 : decode cX7_isUnder 19 = .ok (.iload_n 2, 1) := by decide +kernel
theorem dX7_isUnder_20 : decode cX7_isUnder 20 = .ok (.ifCond .lt 7, 3) := by decide +kernel
theorem dX7_isUnder_23 : decode cX7_isUnder 23 = .ok (.iconst 1, 1) := by decide +kernel
theorem dX7_isUnder_24 : decode cX7_isUnder 24 = .ok (.goto 4, 3) := by decide +kernel
theorem dX7_isUnder_27 : decode cX7_isUnder 27 = .ok (.iconst 0, 1) := by decide +kernel
theorem dX7_isUnder_28 : decode cX7_isUnder 28 = .ok (.ireturn, 1) := by decide +kernel
set_option maxRecDepth 20000 in
theorem ggX7_load_X7_lacks : GoodIn wsX7_load wsX7_lacks := goodIn_r _ [8, 9, 10, 11, 12, 13, 7, 14, 15, 16, 17, 33, 34, 35, 36, 37, 38, 39, 40, 41, 42, 43, 44, 45, 46, 47, 48, 49, 50, 51, 52, 53, 54, 55, 56, 57, 58, 59] (by decide +kernel) (by decide +kernel)
set_option maxRecDepth 20000 in
theorem gX7_load_X7_lacks : GoodIn wsX7_load (wsV RX7 280 RX7 yX7_lacks wsX7_lacks) := goodIn_app (goodIn_of _ (by decide +kernel)) ggX7_load_X7_lacks
set_option maxRecDepth 20000 in
theorem ggX7_load_X7_finding : GoodIn wsX7_load wsX7_finding := goodIn_r _ [21, 22, 9, 33, 34, 35, 36, 37, 38, 39, 40, 41, 42, 43, 44, 45, 46, 47, 48, 49, 50, 51, 52, 53, 54, 55, 56, 57, 58, 59] (by decide +kernel) (by decide +kernel)
set_option maxRecDepth 20000 in
theorem gX7_load_X7_finding : GoodIn wsX7_load (wsV RX7 101 RX7 yX7_finding wsX7_finding) := goodIn_app (goodIn_of _ (by decide +kernel)) ggX7_load_X7_finding
set_option maxRecDepth 20000 in
theorem ggX7_load_X7_isCell : GoodIn wsX7_load wsX7_isCell := goodIn_r _ [25, 15, 16, 7, 17] (by decide +kernel) (by decide +kernel)
set_option maxRecDepth 20000 in
theorem gX7_load_X7_isCell : GoodIn wsX7_load (va_wsS RX7 116 yX7_isCell wsX7_isCell) := goodIn_app (goodIn_of _ (by decide +kernel)) ggX7_load_X7_isCell
set_option maxRecDepth 20000 in
theorem ggX7_load_X7_isPath : GoodIn wsX7_load wsX7_isPath := goodIn_r _ [28, 15, 16, 7, 17] (by decide +kernel) (by decide +kernel)
set_option maxRecDepth 20000 in
theorem gX7_load_X7_isPath : GoodIn wsX7_load (va_wsS RX7 138 yX7_isPath wsX7_isPath) := goodIn_app (goodIn_of _ (by decide +kernel)) ggX7_load_X7_isPath
set_option maxRecDepth 20000 in
theorem ggX7_load_X7_isGrass : GoodIn wsX7_load wsX7_isGrass := goodIn_r _ [32, 3, 33, 34, 35, 36, 37, 38, 39, 40, 41, 42, 43, 44, 45, 46, 47, 48, 49, 50, 51, 52, 53, 54, 55, 56, 57, 58, 59] (by decide +kernel) (by decide +kernel)
set_option maxRecDepth 20000 in
theorem gX7_load_X7_isGrass : GoodIn wsX7_load (wsV RX7 141 RX7 yX7_isGrass wsX7_isGrass) := goodIn_app (goodIn_of _ (by decide +kernel)) ggX7_load_X7_isGrass
theorem dX7_load_0 : decode cX7_load 0 = .ok (.aload_n 0, 1) := by decide +kernel
theorem dX7_load_1 : decode cX7_load 1 = .ok (.iload_n 1, 1) := by decide +kernel
theorem dX7_load_2 : decode cX7_load 2 = .ok (.invokevirtual 280, 3) := by decide +kernel
theorem dX7_load_5 : decode cX7_load 5 = .ok (.ifCond .eq 13, 3) := by decide +kernel
theorem dX7_load_8 : decode cX7_load 8 = .ok (.aload_n 0, 1) := by decide +kernel
theorem dX7_load_9 : decode cX7_load 9 = .ok (.aload_n 0, 1) := by decide +kernel
theorem dX7_load_10 : decode cX7_load 10 = .ok (.iload_n 1, 1) := by decide +kernel
theorem dX7_load_11 : decode cX7_load 11 = .ok (.invokevirtual 280, 3) := by decide +kernel
theorem dX7_load_14 : decode cX7_load 14 = .ok (.invokevirtual 101, 3) := by decide +kernel
theorem dX7_load_17 : decode cX7_load 17 = .ok (.ireturn, 1) := by decide +kernel
theorem dX7_load_18 : decode cX7_load 18 = .ok (.iconst 0, 1) := by decide +kernel
theorem dX7_load_19 : decode cX7_load 19 = .ok (.istore_n 2, 1) := by decide +kernel
theorem dX7_load_20 : decode cX7_load 20 = .ok (.iload_n 2, 1) := by decide +kernel
theorem dX7_load_21 : decode cX7_load 21 = .ok (.aload_n 0, 1) := by decide +kernel
theorem dX7_load_22 : decode cX7_load 22 = .ok (.getfield 86, 3) := by decide +kernel
theorem dX7_load_25 : decode cX7_load 25 = .ok (.iload_n 1, 1) := by decide +kernel
theorem dX7_load_26 : decode cX7_load 26 = .ok (.iaload, 1) := by decide +kernel
theorem dX7_load_27 : decode cX7_load 27 = .ok (.if_icmp .ge 73, 3) := by decide +kernel
theorem dX7_load_30 : decode cX7_load 30 = .ok (.iload_n 2, 1) := by decide +kernel
theorem dX7_load_31 : decode cX7_load 31 = .ok (.invokestatic 116, 3) := by decide +kernel
theorem dX7_load_34 : decode cX7_load 34 = .ok (.ifCond .eq 66, 3) := by decide +kernel
theorem dX7_load_37 : decode cX7_load 37 = .ok (.aload_n 0, 1) := by decide +kernel
theorem dX7_load_38 : decode cX7_load 38 = .ok (.getfield 89, 3) := by decide +kernel
theorem dX7_load_41 : decode cX7_load 41 = .ok (.bipush 40, 2) := by decide +kernel
theorem dX7_load_43 : decode cX7_load 43 = .ok (.iload_n 1, 1) := by decide +kernel
theorem dX7_load_44 : decode cX7_load 44 = .ok (.imul, 1) := by decide +kernel
theorem dX7_load_45 : decode cX7_load 45 = .ok (.iload_n 2, 1) := by decide +kernel
theorem dX7_load_46 : decode cX7_load 46 = .ok (.iadd, 1) := by decide +kernel
theorem dX7_load_47 : decode cX7_load 47 = .ok (.iaload, 1) := by decide +kernel
theorem dX7_load_48 : decode cX7_load 48 = .ok (.invokestatic 138, 3) := by decide +kernel
theorem dX7_load_51 : decode cX7_load 51 = .ok (.ifCond .eq 49, 3) := by decide +kernel
theorem dX7_load_54 : decode cX7_load 54 = .ok (.aload_n 0, 1) := by decide +kernel
theorem dX7_load_55 : decode cX7_load 55 = .ok (.getfield 9, 3) := by decide +kernel
theorem dX7_load_58 : decode cX7_load 58 = .ok (.bipush 49, 2) := by decide +kernel
theorem dX7_load_60 : decode cX7_load 60 = .ok (.iload_n 2, 1) := by decide +kernel
theorem dX7_load_61 : decode cX7_load 61 = .ok (.iadd, 1) := by decide +kernel
theorem dX7_load_62 : decode cX7_load 62 = .ok (.aload_n 0, 1) := by decide +kernel
theorem dX7_load_63 : decode cX7_load 63 = .ok (.iload_n 2, 1) := by decide +kernel
theorem dX7_load_64 : decode cX7_load 64 = .ok (.invokevirtual 141, 3) := by decide +kernel
theorem dX7_load_67 : decode cX7_load 67 = .ok (.ifCond .eq 17, 3) := by decide +kernel
theorem dX7_load_70 : decode cX7_load 70 = .ok (.aload_n 0, 1) := by decide +kernel
theorem dX7_load_71 : decode cX7_load 71 = .ok (.getfield 89, 3) := by decide +kernel
theorem dX7_load_74 : decode cX7_load 74 = .ok (.bipush 40, 2) := by decide +kernel
theorem dX7_load_76 : decode cX7_load 76 = .ok (.iload_n 1, 1) := by decide +kernel
theorem dX7_load_77 : decode cX7_load 77 = .ok (.imul, 1) := by decide +kernel
theorem dX7_load_78 : decode cX7_load 78 = .ok (.iload_n 2, 1) := by decide +kernel
theorem dX7_load_79 : decode cX7_load 79 = .ok (.iadd, 1) := by decide +kernel
theorem dX7_load_80 : decode cX7_load 80 = .ok (.iaload, 1) := by decide +kernel
theorem dX7_load_81 : decode cX7_load 81 = .ok (.goto 12, 3) := by decide +kernel
theorem dX7_load_84 : decode cX7_load 84 = .ok (.aload_n 0, 1) := by decide +kernel
theorem dX7_load_85 : decode cX7_load 85 = .ok (.getfield 9, 3) := by decide +kernel
theorem dX7_load_88 : decode cX7_load 88 = .ok (.bipush 49, 2) := by decide +kernel
theorem dX7_load_90 : decode cX7_load 90 = .ok (.iload_n 2, 1) := by decide +kernel
theorem dX7_load_91 : decode cX7_load 91 = .ok (.iadd, 1) := by decide +kernel
theorem dX7_load_92 : decode cX7_load 92 = .ok (.iaload, 1) := by decide +kernel
theorem dX7_load_93 : decode cX7_load 93 = .ok (.iastore, 1) := by decide +kernel
theorem dX7_load_94 : decode cX7_load 94 = .ok (.iinc 2 1, 3) := by decide +kernel
theorem dX7_load_97 : decode cX7_load 97 = .ok (.goto (-77), 3) := by decide +kernel
theorem dX7_load_100 : decode cX7_load 100 = .ok (.iload_n 2, 1) := by decide +kernel
theorem dX7_load_101 : decode cX7_load 101 = .ok (.ireturn, 1) := by decide +kernel
set_option maxRecDepth 20000 in
theorem ggX7_judge_X7_lacks : GoodIn wsX7_judge wsX7_lacks := goodIn_r _ [7, 8, 9, 10, 11, 12, 6, 13, 14, 15, 16, 37, 38, 39, 40, 41, 42, 43, 44, 45, 46, 47, 48, 49, 50, 51, 52, 53, 54, 55, 56, 57, 58, 59, 60, 61, 62, 63] (by decide +kernel) (by decide +kernel)
set_option maxRecDepth 20000 in
theorem gX7_judge_X7_lacks : GoodIn wsX7_judge (wsV RX7 280 RX7 yX7_lacks wsX7_lacks) := goodIn_app (goodIn_of _ (by decide +kernel)) ggX7_judge_X7_lacks
set_option maxRecDepth 20000 in
theorem ggX7_judge_X7_finding : GoodIn wsX7_judge wsX7_finding := goodIn_r _ [20, 21, 8, 37, 38, 39, 40, 41, 42, 43, 44, 45, 46, 47, 48, 49, 50, 51, 52, 53, 54, 55, 56, 57, 58, 59, 60, 61, 62, 63] (by decide +kernel) (by decide +kernel)
set_option maxRecDepth 20000 in
theorem gX7_judge_X7_finding : GoodIn wsX7_judge (wsV RX7 101 RX7 yX7_finding wsX7_finding) := goodIn_app (goodIn_of _ (by decide +kernel)) ggX7_judge_X7_finding
set_option maxRecDepth 20000 in
theorem ggX7_judge_X7_isCell : GoodIn wsX7_judge wsX7_isCell := goodIn_r _ [24, 14, 15, 6, 16] (by decide +kernel) (by decide +kernel)
set_option maxRecDepth 20000 in
theorem gX7_judge_X7_isCell : GoodIn wsX7_judge (va_wsS RX7 116 yX7_isCell wsX7_isCell) := goodIn_app (goodIn_of _ (by decide +kernel)) ggX7_judge_X7_isCell
set_option maxRecDepth 20000 in
theorem ggX7_judge_X7_hasPath : GoodIn wsX7_judge wsX7_hasPath := goodIn_r _ [28, 29, 37, 38, 39, 40, 41, 42, 43, 44, 45, 46, 47, 48, 49, 50, 51, 52, 53, 54, 55, 56, 57, 58, 59, 60, 61, 62, 63] (by decide +kernel) (by decide +kernel)
set_option maxRecDepth 20000 in
theorem gX7_judge_X7_hasPath : GoodIn wsX7_judge (wsV RX7 126 RX7 yX7_hasPath wsX7_hasPath) := goodIn_app (goodIn_of _ (by decide +kernel)) ggX7_judge_X7_hasPath
set_option maxRecDepth 20000 in
theorem ggX7_judge_X7_apartOf : GoodIn wsX7_judge wsX7_apartOf := goodIn_r _ [32, 33, 34, 35, 36] (by decide +kernel) (by decide +kernel)
set_option maxRecDepth 20000 in
theorem gX7_judge_X7_apartOf : GoodIn wsX7_judge (va_wsS RX7 161 yX7_apartOf wsX7_apartOf) := goodIn_app (goodIn_of _ (by decide +kernel)) ggX7_judge_X7_apartOf
theorem dX7_judge_0 : decode cX7_judge 0 = .ok (.aload_n 0, 1) := by decide +kernel
theorem dX7_judge_1 : decode cX7_judge 1 = .ok (.iload_n 1, 1) := by decide +kernel
theorem dX7_judge_2 : decode cX7_judge 2 = .ok (.invokevirtual 280, 3) := by decide +kernel
theorem dX7_judge_5 : decode cX7_judge 5 = .ok (.ifCond .eq 13, 3) := by decide +kernel
theorem dX7_judge_8 : decode cX7_judge 8 = .ok (.aload_n 0, 1) := by decide +kernel
theorem dX7_judge_9 : decode cX7_judge 9 = .ok (.aload_n 0, 1) := by decide +kernel
theorem dX7_judge_10 : decode cX7_judge 10 = .ok (.iload_n 1, 1) := by decide +kernel
theorem dX7_judge_11 : decode cX7_judge 11 = .ok (.invokevirtual 280, 3) := by decide +kernel
theorem dX7_judge_14 : decode cX7_judge 14 = .ok (.invokevirtual 101, 3) := by decide +kernel
theorem dX7_judge_17 : decode cX7_judge 17 = .ok (.ireturn, 1) := by decide +kernel
theorem dX7_judge_18 : decode cX7_judge 18 = .ok (.iconst 0, 1) := by decide +kernel
theorem dX7_judge_19 : decode cX7_judge 19 = .ok (.istore_n 2, 1) := by decide +kernel
theorem dX7_judge_20 : decode cX7_judge 20 = .ok (.iconst 1, 1) := by decide +kernel
theorem dX7_judge_21 : decode cX7_judge 21 = .ok (.istore_n 3, 1) := by decide +kernel
theorem dX7_judge_22 : decode cX7_judge 22 = .ok (.iload_n 2, 1) := by decide +kernel
theorem dX7_judge_23 : decode cX7_judge 23 = .ok (.aload_n 0, 1) := by decide +kernel
theorem dX7_judge_24 : decode cX7_judge 24 = .ok (.getfield 86, 3) := by decide +kernel
theorem dX7_judge_27 : decode cX7_judge 27 = .ok (.iload_n 1, 1) := by decide +kernel
theorem dX7_judge_28 : decode cX7_judge 28 = .ok (.iaload, 1) := by decide +kernel
theorem dX7_judge_29 : decode cX7_judge 29 = .ok (.if_icmp .ge 84, 3) := by decide +kernel
theorem dX7_judge_32 : decode cX7_judge 32 = .ok (.iload_n 3, 1) := by decide +kernel
theorem dX7_judge_33 : decode cX7_judge 33 = .ok (.ifCond .eq 80, 3) := by decide +kernel
theorem dX7_judge_36 : decode cX7_judge 36 = .ok (.aload_n 0, 1) := by decide +kernel
theorem dX7_judge_37 : decode cX7_judge 37 = .ok (.getfield 89, 3) := by decide +kernel
theorem dX7_judge_40 : decode cX7_judge 40 = .ok (.bipush 40, 2) := by decide +kernel
theorem dX7_judge_42 : decode cX7_judge 42 = .ok (.iload_n 1, 1) := by decide +kernel
theorem dX7_judge_43 : decode cX7_judge 43 = .ok (.imul, 1) := by decide +kernel
theorem dX7_judge_44 : decode cX7_judge 44 = .ok (.iload_n 2, 1) := by decide +kernel
theorem dX7_judge_45 : decode cX7_judge 45 = .ok (.iadd, 1) := by decide +kernel
theorem dX7_judge_46 : decode cX7_judge 46 = .ok (.iaload, 1) := by decide +kernel
theorem dX7_judge_47 : decode cX7_judge 47 = .ok (.istore 4, 2) := by decide +kernel
theorem dX7_judge_49 : decode cX7_judge 49 = .ok (.iload 4, 2) := by decide +kernel
theorem dX7_judge_51 : decode cX7_judge 51 = .ok (.invokestatic 116, 3) := by decide +kernel
theorem dX7_judge_54 : decode cX7_judge 54 = .ok (.ifCond .eq 42, 3) := by decide +kernel
theorem dX7_judge_57 : decode cX7_judge 57 = .ok (.aload_n 0, 1) := by decide +kernel
theorem dX7_judge_58 : decode cX7_judge 58 = .ok (.iload 4, 2) := by decide +kernel
theorem dX7_judge_60 : decode cX7_judge 60 = .ok (.invokevirtual 126, 3) := by decide +kernel
theorem dX7_judge_63 : decode cX7_judge 63 = .ok (.ifCond .eq 33, 3) := by decide +kernel
theorem dX7_judge_66 : decode cX7_judge 66 = .ok (.iload_n 2, 1) := by decide +kernel
theorem dX7_judge_67 : decode cX7_judge 67 = .ok (.ifCond .eq 25, 3) := by decide +kernel
theorem dX7_judge_70 : decode cX7_judge 70 = .ok (.aload_n 0, 1) := by decide +kernel
theorem dX7_judge_71 : decode cX7_judge 71 = .ok (.getfield 89, 3) := by decide +kernel
theorem dX7_judge_74 : decode cX7_judge 74 = .ok (.bipush 40, 2) := by decide +kernel
theorem dX7_judge_76 : decode cX7_judge 76 = .ok (.iload_n 1, 1) := by decide +kernel
theorem dX7_judge_77 : decode cX7_judge 77 = .ok (.imul, 1) := by decide +kernel
theorem dX7_judge_78 : decode cX7_judge 78 = .ok (.iload_n 2, 1) := by decide +kernel
theorem dX7_judge_79 : decode cX7_judge 79 = .ok (.iadd, 1) := by decide +kernel
theorem dX7_judge_80 : decode cX7_judge 80 = .ok (.iconst 1, 1) := by decide +kernel
theorem dX7_judge_81 : decode cX7_judge 81 = .ok (.isub, 1) := by decide +kernel
theorem dX7_judge_82 : decode cX7_judge 82 = .ok (.iaload, 1) := by decide +kernel
theorem dX7_judge_83 : decode cX7_judge 83 = .ok (.iload 4, 2) := by decide +kernel
theorem dX7_judge_85 : decode cX7_judge 85 = .ok (.invokestatic 161, 3) := by decide +kernel
theorem dX7_judge_88 : decode cX7_judge 88 = .ok (.iconst 1, 1) := by decide +kernel
theorem dX7_judge_89 : decode cX7_judge 89 = .ok (.if_icmp .ne 7, 3) := by decide +kernel
theorem dX7_judge_92 : decode cX7_judge 92 = .ok (.iconst 1, 1) := by decide +kernel
theorem dX7_judge_93 : decode cX7_judge 93 = .ok (.goto 4, 3) := by decide +kernel
theorem dX7_judge_96 : decode cX7_judge 96 = .ok (.iconst 0, 1) := by decide +kernel
theorem dX7_judge_97 : decode cX7_judge 97 = .ok (.istore_n 3, 1) := by decide +kernel
theorem dX7_judge_98 : decode cX7_judge 98 = .ok (.iload_n 2, 1) := by decide +kernel
theorem dX7_judge_99 : decode cX7_judge 99 = .ok (.iload_n 3, 1) := by decide +kernel
theorem dX7_judge_100 : decode cX7_judge 100 = .ok (.ifCond .eq 7, 3) := by decide +kernel
theorem dX7_judge_103 : decode cX7_judge 103 = .ok (.iconst 1, 1) := by decide +kernel
theorem dX7_judge_104 : decode cX7_judge 104 = .ok (.goto 4, 3) := by decide +kernel
theorem dX7_judge_107 : decode cX7_judge 107 = .ok (.iconst 0, 1) := by decide +kernel
theorem dX7_judge_108 : decode cX7_judge 108 = .ok (.iadd, 1) := by decide +kernel
theorem dX7_judge_109 : decode cX7_judge 109 = .ok (.istore_n 2, 1) := by decide +kernel
theorem dX7_judge_110 : decode cX7_judge 110 = .ok (.goto (-88), 3) := by decide +kernel
theorem dX7_judge_113 : decode cX7_judge 113 = .ok (.iload_n 3, 1) := by decide +kernel
theorem dX7_judge_114 : decode cX7_judge 114 = .ok (.ifCond .eq 7, 3) := by decide +kernel
theorem dX7_judge_117 : decode cX7_judge 117 = .ok (.iconst 0, 1) := by decide +kernel
theorem dX7_judge_118 : decode cX7_judge 118 = .ok (.goto 6, 3) := by decide +kernel
theorem dX7_judge_121 : decode cX7_judge 121 = .ok (.iconst 1, 1) := by decide +kernel
theorem dX7_judge_122 : decode cX7_judge 122 = .ok (.iload_n 2, 1) := by decide +kernel
theorem dX7_judge_123 : decode cX7_judge 123 = .ok (.iadd, 1) := by decide +kernel
theorem dX7_judge_124 : decode cX7_judge 124 = .ok (.ireturn, 1) := by decide +kernel
set_option maxRecDepth 20000 in
theorem ggX7_image_X7_copyRow : GoodIn wsX7_image wsX7_copyRow := goodIn_r _ [7] (by decide +kernel) (by decide +kernel)
set_option maxRecDepth 20000 in
theorem gX7_image_X7_copyRow : GoodIn wsX7_image (va_wsS RX7 96 yX7_copyRow wsX7_copyRow) := goodIn_app (goodIn_of _ (by decide +kernel)) ggX7_image_X7_copyRow
theorem dX7_image_0 : decode cX7_image 0 = .ok (.aload_n 0, 1) := by decide +kernel
theorem dX7_image_1 : decode cX7_image 1 = .ok (.getfield 9, 3) := by decide +kernel
theorem dX7_image_4 : decode cX7_image 4 = .ok (.aload_n 0, 1) := by decide +kernel
theorem dX7_image_5 : decode cX7_image 5 = .ok (.getfield 13, 3) := by decide +kernel
theorem dX7_image_8 : decode cX7_image 8 = .ok (.invokestatic 96, 3) := by decide +kernel
theorem dX7_image_11 : decode cX7_image 11 = .ok (.aload_n 0, 1) := by decide +kernel
theorem dX7_image_12 : decode cX7_image 12 = .ok (.iconst 1, 1) := by decide +kernel
theorem dX7_image_13 : decode cX7_image 13 = .ok (.putfield 381, 3) := by decide +kernel
theorem dX7_image_16 : decode cX7_image 16 = .ok (.iconst 1, 1) := by decide +kernel
theorem dX7_image_17 : decode cX7_image 17 = .ok (.ireturn, 1) := by decide +kernel
set_option maxRecDepth 20000 in
theorem ggX7_undo_X7_finding : GoodIn wsX7_undo wsX7_finding := goodIn_r _ [9, 10, 11, 15, 16, 17, 18, 19, 20, 21, 22, 23, 24, 25, 26, 27, 28, 29, 30, 31, 32, 33, 34, 35, 36, 37, 38, 39, 40, 41] (by decide +kernel) (by decide +kernel)
set_option maxRecDepth 20000 in
theorem gX7_undo_X7_finding : GoodIn wsX7_undo (wsV RX7 101 RX7 yX7_finding wsX7_finding) := goodIn_app (goodIn_of _ (by decide +kernel)) ggX7_undo_X7_finding
set_option maxRecDepth 20000 in
theorem ggX7_undo_X7_copyRow : GoodIn wsX7_undo wsX7_copyRow := goodIn_r _ [14] (by decide +kernel) (by decide +kernel)
set_option maxRecDepth 20000 in
theorem gX7_undo_X7_copyRow : GoodIn wsX7_undo (va_wsS RX7 96 yX7_copyRow wsX7_copyRow) := goodIn_app (goodIn_of _ (by decide +kernel)) ggX7_undo_X7_copyRow
theorem dX7_undo_0 : decode cX7_undo 0 = .ok (.aload_n 0, 1) := by decide +kernel
theorem dX7_undo_1 : decode cX7_undo 1 = .ok (.getfield 381, 3) := by decide +kernel
theorem dX7_undo_4 : decode cX7_undo 4 = .ok (.ifCond .ne 10, 3) := by decide +kernel
theorem dX7_undo_7 : decode cX7_undo 7 = .ok (.aload_n 0, 1) := by decide +kernel
theorem dX7_undo_8 : decode cX7_undo 8 = .ok (.ldc 100, 2) := by decide +kernel
theorem dX7_undo_10 : decode cX7_undo 10 = .ok (.invokevirtual 101, 3) := by decide +kernel
theorem dX7_undo_13 : decode cX7_undo 13 = .ok (.ireturn, 1) := by decide +kernel
theorem dX7_undo_14 : decode cX7_undo 14 = .ok (.aload_n 0, 1) := by decide +kernel
theorem dX7_undo_15 : decode cX7_undo 15 = .ok (.getfield 13, 3) := by decide +kernel
theorem dX7_undo_18 : decode cX7_undo 18 = .ok (.aload_n 0, 1) := by decide +kernel
theorem dX7_undo_19 : decode cX7_undo 19 = .ok (.getfield 9, 3) := by decide +kernel
theorem dX7_undo_22 : decode cX7_undo 22 = .ok (.invokestatic 96, 3) := by decide +kernel
theorem dX7_undo_25 : decode cX7_undo 25 = .ok (.aload_n 0, 1) := by decide +kernel
theorem dX7_undo_26 : decode cX7_undo 26 = .ok (.getfield 9, 3) := by decide +kernel
theorem dX7_undo_29 : decode cX7_undo 29 = .ok (.iconst 0, 1) := by decide +kernel
theorem dX7_undo_30 : decode cX7_undo 30 = .ok (.iaload, 1) := by decide +kernel
theorem dX7_undo_31 : decode cX7_undo 31 = .ok (.ireturn, 1) := by decide +kernel
theorem dX7_tear_0 : decode cX7_tear 0 = .ok (.aload_n 0, 1) := by decide +kernel
theorem dX7_tear_1 : decode cX7_tear 1 = .ok (.getfield 381, 3) := by decide +kernel
theorem dX7_tear_4 : decode cX7_tear 4 = .ok (.ifCond .eq 7, 3) := by decide +kernel
theorem dX7_tear_7 : decode cX7_tear 7 = .ok (.iconst 1, 1) := by decide +kernel
theorem dX7_tear_8 : decode cX7_tear 8 = .ok (.goto 4, 3) := by decide +kernel
theorem dX7_tear_11 : decode cX7_tear 11 = .ok (.iconst 0, 1) := by decide +kernel
theorem dX7_tear_12 : decode cX7_tear 12 = .ok (.istore_n 1, 1) := by decide +kernel
theorem dX7_tear_13 : decode cX7_tear 13 = .ok (.aload_n 0, 1) := by decide +kernel
theorem dX7_tear_14 : decode cX7_tear 14 = .ok (.iconst 0, 1) := by decide +kernel
theorem dX7_tear_15 : decode cX7_tear 15 = .ok (.putfield 381, 3) := by decide +kernel
theorem dX7_tear_18 : decode cX7_tear 18 = .ok (.iload_n 1, 1) := by decide +kernel
theorem dX7_tear_19 : decode cX7_tear 19 = .ok (.ireturn, 1) := by decide +kernel
set_option maxRecDepth 20000 in
theorem ggX7_count_X7_aliveNow : GoodIn wsX7_count wsX7_aliveNow := goodIn_r _ [8, 1, 9, 10, 11, 7, 12, 13, 14, 15, 16, 17, 18, 19, 20, 52, 53, 54, 55, 56, 57, 58, 59, 60, 61, 62, 63, 64, 65, 66, 67, 68, 69, 70, 71, 72, 73, 74, 75, 76, 77, 78] (by decide +kernel) (by decide +kernel)
set_option maxRecDepth 20000 in
theorem gX7_count_X7_aliveNow : GoodIn wsX7_count (wsV RX7 213 RX7 yX7_aliveNow wsX7_aliveNow) := goodIn_app (goodIn_of _ (by decide +kernel)) ggX7_count_X7_aliveNow
set_option maxRecDepth 20000 in
theorem ggX7_count_X7_bits : GoodIn wsX7_count wsX7_bits := goodIn_r _ [23] (by decide +kernel) (by decide +kernel)
set_option maxRecDepth 20000 in
theorem gX7_count_X7_bits : GoodIn wsX7_count (va_wsS RX7 286 yX7_bits wsX7_bits) := goodIn_app (goodIn_of _ (by decide +kernel)) ggX7_count_X7_bits
set_option maxRecDepth 20000 in
theorem ggX7_count_X7_pathsNow : GoodIn wsX7_count wsX7_pathsNow := goodIn_r _ [27, 28, 29, 30, 7, 31, 1, 52, 53, 54, 55, 56, 57, 58, 59, 60, 61, 62, 63, 64, 65, 66, 67, 68, 69, 70, 71, 72, 73, 74, 75, 76, 77, 78] (by decide +kernel) (by decide +kernel)
set_option maxRecDepth 20000 in
theorem gX7_count_X7_pathsNow : GoodIn wsX7_count (wsV RX7 209 RX7 yX7_pathsNow wsX7_pathsNow) := goodIn_app (goodIn_of _ (by decide +kernel)) ggX7_count_X7_pathsNow
set_option maxRecDepth 20000 in
theorem ggX7_count_X7_benches : GoodIn wsX7_count wsX7_benches := goodIn_r _ [35, 36, 37, 38, 7, 39, 28, 29, 30, 31, 1, 40, 41, 42, 43, 44, 45, 46, 52, 53, 54, 55, 56, 57, 58, 59, 60, 61, 62, 63, 64, 65, 66, 67, 68, 69, 70, 71, 72, 73, 74, 75, 76, 77, 78] (by decide +kernel) (by decide +kernel)
set_option maxRecDepth 20000 in
theorem gX7_count_X7_benches : GoodIn wsX7_count (wsV RX7 219 RX7 yX7_benches wsX7_benches) := goodIn_app (goodIn_of _ (by decide +kernel)) ggX7_count_X7_benches
set_option maxRecDepth 20000 in
theorem ggX7_count_X7_finding : GoodIn wsX7_count wsX7_finding := goodIn_r _ [50, 51, 3, 52, 53, 54, 55, 56, 57, 58, 59, 60, 61, 62, 63, 64, 65, 66, 67, 68, 69, 70, 71, 72, 73, 74, 75, 76, 77, 78] (by decide +kernel) (by decide +kernel)
set_option maxRecDepth 20000 in
theorem gX7_count_X7_finding : GoodIn wsX7_count (wsV RX7 101 RX7 yX7_finding wsX7_finding) := goodIn_app (goodIn_of _ (by decide +kernel)) ggX7_count_X7_finding
theorem dX7_count_0 : decode cX7_count 0 = .ok (.iconst 0, 1) := by decide +kernel
theorem dX7_count_1 : decode cX7_count 1 = .ok (.istore_n 2, 1) := by decide +kernel
theorem dX7_count_2 : decode cX7_count 2 = .ok (.iload_n 1, 1) := by decide +kernel
theorem dX7_count_3 : decode cX7_count 3 = .ok (.tableswitch 124 0 7 #[45, 52, 59, 67, 72, 77, 82, 89], 45) := by decide +kernel
theorem dX7_count_48 : decode cX7_count 48 = .ok (.aload_n 0, 1) := by decide +kernel
theorem dX7_count_49 : decode cX7_count 49 = .ok (.getfield 9, 3) := by decide +kernel
theorem dX7_count_52 : decode cX7_count 52 = .ok (.iconst 0, 1) := by decide +kernel
theorem dX7_count_53 : decode cX7_count 53 = .ok (.iaload, 1) := by decide +kernel
theorem dX7_count_54 : decode cX7_count 54 = .ok (.ireturn, 1) := by decide +kernel
theorem dX7_count_55 : decode cX7_count 55 = .ok (.aload_n 0, 1) := by decide +kernel
theorem dX7_count_56 : decode cX7_count 56 = .ok (.getfield 9, 3) := by decide +kernel
theorem dX7_count_59 : decode cX7_count 59 = .ok (.iconst 1, 1) := by decide +kernel
theorem dX7_count_60 : decode cX7_count 60 = .ok (.iaload, 1) := by decide +kernel
theorem dX7_count_61 : decode cX7_count 61 = .ok (.ireturn, 1) := by decide +kernel
theorem dX7_count_62 : decode cX7_count 62 = .ok (.aload_n 0, 1) := by decide +kernel
theorem dX7_count_63 : decode cX7_count 63 = .ok (.invokevirtual 213, 3) := by decide +kernel
theorem dX7_count_66 : decode cX7_count 66 = .ok (.invokestatic 286, 3) := by decide +kernel
theorem dX7_count_69 : decode cX7_count 69 = .ok (.ireturn, 1) := by decide +kernel
theorem dX7_count_70 : decode cX7_count 70 = .ok (.aload_n 0, 1) := by decide +kernel
theorem dX7_count_71 : decode cX7_count 71 = .ok (.invokevirtual 209, 3) := by decide +kernel
theorem dX7_count_74 : decode cX7_count 74 = .ok (.ireturn, 1) := by decide +kernel
theorem dX7_count_75 : decode cX7_count 75 = .ok (.aload_n 0, 1) := by decide +kernel
theorem dX7_count_76 : decode cX7_count 76 = .ok (.invokevirtual 219, 3) := by decide +kernel
theorem dX7_count_79 : decode cX7_count 79 = .ok (.ireturn, 1) := by decide +kernel
theorem dX7_count_80 : decode cX7_count 80 = .ok (.aload_n 0, 1) := by decide +kernel
theorem dX7_count_81 : decode cX7_count 81 = .ok (.getfield 293, 3) := by decide +kernel
theorem dX7_count_84 : decode cX7_count 84 = .ok (.ireturn, 1) := by decide +kernel
theorem dX7_count_85 : decode cX7_count 85 = .ok (.aload_n 0, 1) := by decide +kernel
theorem dX7_count_86 : decode cX7_count 86 = .ok (.getfield 9, 3) := by decide +kernel
theorem dX7_count_89 : decode cX7_count 89 = .ok (.iconst 2, 1) := by decide +kernel
theorem dX7_count_90 : decode cX7_count 90 = .ok (.iaload, 1) := by decide +kernel
theorem dX7_count_91 : decode cX7_count 91 = .ok (.ireturn, 1) := by decide +kernel
theorem dX7_count_92 : decode cX7_count 92 = .ok (.iconst 0, 1) := by decide +kernel
theorem dX7_count_93 : decode cX7_count 93 = .ok (.istore_n 3, 1) := by decide +kernel
theorem dX7_count_94 : decode cX7_count 94 = .ok (.iload_n 3, 1) := by decide +kernel
theorem dX7_count_95 : decode cX7_count 95 = .ok (.bipush 10, 2) := by decide +kernel
theorem dX7_count_97 : decode cX7_count 97 = .ok (.if_icmp .ge 28, 3) := by decide +kernel
theorem dX7_count_100 : decode cX7_count 100 = .ok (.iload_n 2, 1) := by decide +kernel
theorem dX7_count_101 : decode cX7_count 101 = .ok (.aload_n 0, 1) := by decide +kernel
theorem dX7_count_102 : decode cX7_count 102 = .ok (.getfield 9, 3) := by decide +kernel
theorem dX7_count_105 : decode cX7_count 105 = .ok (.iconst 3, 1) := by decide +kernel
theorem dX7_count_106 : decode cX7_count 106 = .ok (.iload_n 3, 1) := by decide +kernel
theorem dX7_count_107 : decode cX7_count 107 = .ok (.iadd, 1) := by decide +kernel
theorem dX7_count_108 : decode cX7_count 108 = .ok (.iaload, 1) := by decide +kernel
theorem dX7_count_109 : decode cX7_count 109 = .ok (.ifCond .ge 7, 3) := by decide +kernel
theorem dX7_count_112 : decode cX7_count 112 = .ok (.iconst 0, 1) := by decide +kernel
theorem dX7_count_113 : decode cX7_count 113 = .ok (.goto 4, 3) := by decide +kernel
theorem dX7_count_116 : decode cX7_count 116 = .ok (.iconst 1, 1) := by decide +kernel
theorem dX7_count_117 : decode cX7_count 117 = .ok (.iadd, 1) := by decide +kernel
theorem dX7_count_118 : decode cX7_count 118 = .ok (.istore_n 2, 1) := by decide +kernel
theorem dX7_count_119 : decode cX7_count 119 = .ok (.iinc 3 1, 3) := by decide +kernel
theorem dX7_count_122 : decode cX7_count 122 = .ok (.goto (-28), 3) := by decide +kernel
theorem dX7_count_125 : decode cX7_count 125 = .ok (.iload_n 2, 1) := by decide +kernel
theorem dX7_count_126 : decode cX7_count 126 = .ok (.ireturn, 1) := by decide +kernel
theorem dX7_count_127 : decode cX7_count 127 = .ok (.aload_n 0, 1) := by decide +kernel
theorem dX7_count_128 : decode cX7_count 128 = .ok (.ldc 95, 2) := by decide +kernel
theorem dX7_count_130 : decode cX7_count 130 = .ok (.invokevirtual 101, 3) := by decide +kernel
theorem dX7_count_133 : decode cX7_count 133 = .ok (.ireturn, 1) := by decide +kernel
set_option maxRecDepth 20000 in
theorem ggX7_status_X7_within : GoodIn wsX7_status wsX7_within := goodIn_r _ [6] (by decide +kernel) (by decide +kernel)
set_option maxRecDepth 20000 in
theorem gX7_status_X7_within : GoodIn wsX7_status (va_wsS RX7 105 yX7_within wsX7_within) := goodIn_app (goodIn_of _ (by decide +kernel)) ggX7_status_X7_within
set_option maxRecDepth 20000 in
theorem ggX7_status_X7_finding : GoodIn wsX7_status wsX7_finding := goodIn_r _ [10, 1, 2, 11, 12, 13, 14, 15, 16, 17, 18, 19, 20, 21, 22, 23, 24, 25, 26, 27, 28, 29, 30, 31, 32, 33, 34, 35, 36, 37] (by decide +kernel) (by decide +kernel)
set_option maxRecDepth 20000 in
theorem gX7_status_X7_finding : GoodIn wsX7_status (wsV RX7 101 RX7 yX7_finding wsX7_finding) := goodIn_app (goodIn_of _ (by decide +kernel)) ggX7_status_X7_finding
theorem dX7_status_0 : decode cX7_status 0 = .ok (.iload_n 1, 1) := by decide +kernel
theorem dX7_status_1 : decode cX7_status 1 = .ok (.iconst (-1), 1) := by decide +kernel
theorem dX7_status_2 : decode cX7_status 2 = .ok (.bipush 6, 2) := by decide +kernel
theorem dX7_status_4 : decode cX7_status 4 = .ok (.invokestatic 105, 3) := by decide +kernel
theorem dX7_status_7 : decode cX7_status 7 = .ok (.ifCond .eq 14, 3) := by decide +kernel
theorem dX7_status_10 : decode cX7_status 10 = .ok (.aload_n 0, 1) := by decide +kernel
theorem dX7_status_11 : decode cX7_status 11 = .ok (.getfield 19, 3) := by decide +kernel
theorem dX7_status_14 : decode cX7_status 14 = .ok (.iload_n 1, 1) := by decide +kernel
theorem dX7_status_15 : decode cX7_status 15 = .ok (.iconst 1, 1) := by decide +kernel
theorem dX7_status_16 : decode cX7_status 16 = .ok (.iadd, 1) := by decide +kernel
theorem dX7_status_17 : decode cX7_status 17 = .ok (.iaload, 1) := by decide +kernel
theorem dX7_status_18 : decode cX7_status 18 = .ok (.goto 9, 3) := by decide +kernel
theorem dX7_status_21 : decode cX7_status 21 = .ok (.aload_n 0, 1) := by decide +kernel
theorem dX7_status_22 : decode cX7_status 22 = .ok (.ldc 95, 2) := by decide +kernel
theorem dX7_status_24 : decode cX7_status 24 = .ok (.invokevirtual 101, 3) := by decide +kernel
theorem dX7_status_27 : decode cX7_status 27 = .ok (.ireturn, 1) := by decide +kernel
