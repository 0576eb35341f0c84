theorem dX11_pass_0 : decode cX11_pass 0 = .ok (.iconst 0, 1) := by decide +kernel
theorem dX11_pass_1 : decode cX11_pass 1 = .ok (.istore_n 2, 1) := by decide +kernel
theorem dX11_pass_2 : decode cX11_pass 2 = .ok (.iload_n 2, 1) := by decide +kernel
theorem dX11_pass_3 : decode cX11_pass 3 = .ok (.aload_n 0, 1) := by decide +kernel
theorem dX11_pass_4 : decode cX11_pass 4 = .ok (.getfield 19, 3) := by decide +kernel
theorem dX11_pass_7 : decode cX11_pass 7 = .ok (.arraylength, 1) := by decide +kernel
theorem dX11_pass_8 : decode cX11_pass 8 = .ok (.if_icmp .ge 211, 3) := by decide +kernel
theorem dX11_pass_11 : decode cX11_pass 11 = .ok (.iload_n 2, 1) := by decide +kernel
theorem dX11_pass_12 : decode cX11_pass 12 = .ok (.iload_n 1, 1) := by decide +kernel
theorem dX11_pass_13 : decode cX11_pass 13 = .ok (.if_icmp .ne 7, 3) := by decide +kernel
theorem dX11_pass_20 : decode cX11_pass 20 = .ok (.aload_n 0, 1) := by decide +kernel
theorem dX11_pass_21 : decode cX11_pass 21 = .ok (.iload_n 2, 1) := by decide +kernel
theorem dX11_pass_22 : decode cX11_pass 22 = .ok (.invokevirtual 60, 3) := by decide +kernel
theorem dX11_pass_25 : decode cX11_pass 25 = .ok (.istore_n 3, 1) := by decide +kernel
theorem dX11_pass_26 : decode cX11_pass 26 = .ok (.iload_n 3, 1) := by decide +kernel
theorem dX11_pass_27 : decode cX11_pass 27 = .ok (.ifCond .ge 6, 3) := by decide +kernel
theorem dX11_pass_30 : decode cX11_pass 30 = .ok (.goto 183, 3) := by decide +kernel
theorem dX11_pass_33 : decode cX11_pass 33 = .ok (.aload_n 0, 1) := by decide +kernel
theorem dX11_pass_34 : decode cX11_pass 34 = .ok (.getfield 28, 3) := by decide +kernel
theorem dX11_pass_37 : decode cX11_pass 37 = .ok (.iload_n 3, 1) := by decide +kernel
theorem dX11_pass_38 : decode cX11_pass 38 = .ok (.aaload, 1) := by decide +kernel
theorem dX11_pass_39 : decode cX11_pass 39 = .ok (.astore 4, 2) := by decide +kernel
theorem dX11_pass_41 : decode cX11_pass 41 = .ok (.aload_n 0, 1) := by decide +kernel
theorem dX11_pass_42 : decode cX11_pass 42 = .ok (.getfield 22, 3) := by decide +kernel
theorem dX11_pass_45 : decode cX11_pass 45 = .ok (.aload 4, 2) := by decide +kernel
theorem dX11_pass_47 : decode cX11_pass 47 = .ok (.iconst 1, 1) := by decide +kernel
theorem dX11_pass_48 : decode cX11_pass 48 = .ok (.iaload, 1) := by decide +kernel
theorem dX11_pass_49 : decode cX11_pass 49 = .ok (.aaload, 1) := by decide +kernel
theorem dX11_pass_50 : decode cX11_pass 50 = .ok (.astore 5, 2) := by decide +kernel
theorem dX11_pass_52 : decode cX11_pass 52 = .ok (.aload_n 0, 1) := by decide +kernel
theorem dX11_pass_53 : decode cX11_pass 53 = .ok (.getfield 19, 3) := by decide +kernel
theorem dX11_pass_56 : decode cX11_pass 56 = .ok (.iload_n 2, 1) := by decide +kernel
theorem dX11_pass_57 : decode cX11_pass 57 = .ok (.aaload, 1) := by decide +kernel
theorem dX11_pass_58 : decode cX11_pass 58 = .ok (.iconst 2, 1) := by decide +kernel
theorem dX11_pass_59 : decode cX11_pass 59 = .ok (.iaload, 1) := by decide +kernel
theorem dX11_pass_60 : decode cX11_pass 60 = .ok (.aload 4, 2) := by decide +kernel
theorem dX11_pass_62 : decode cX11_pass 62 = .ok (.iconst 2, 1) := by decide +kernel
theorem dX11_pass_63 : decode cX11_pass 63 = .ok (.iaload, 1) := by decide +kernel
theorem dX11_pass_64 : decode cX11_pass 64 = .ok (.if_icmp .ne 7, 3) := by decide +kernel
theorem dX11_pass_67 : decode cX11_pass 67 = .ok (.iconst 1, 1) := by decide +kernel
theorem dX11_pass_68 : decode cX11_pass 68 = .ok (.goto 4, 3) := by decide +kernel
theorem dX11_pass_71 : decode cX11_pass 71 = .ok (.iconst 0, 1) := by decide +kernel
theorem dX11_pass_72 : decode cX11_pass 72 = .ok (.istore 6, 2) := by decide +kernel
theorem dX11_pass_74 : decode cX11_pass 74 = .ok (.aload 4, 2) := by decide +kernel
theorem dX11_pass_76 : decode cX11_pass 76 = .ok (.iconst 4, 1) := by decide +kernel
theorem dX11_pass_77 : decode cX11_pass 77 = .ok (.dup2, 1) := by decide +kernel
theorem dX11_pass_78 : decode cX11_pass 78 = .ok (.iaload, 1) := by decide +kernel
theorem dX11_pass_79 : decode cX11_pass 79 = .ok (.aload_n 0, 1) := by decide +kernel
theorem dX11_pass_80 : decode cX11_pass 80 = .ok (.getfield 19, 3) := by decide +kernel
theorem dX11_pass_83 : decode cX11_pass 83 = .ok (.iload_n 2, 1) := by decide +kernel
theorem dX11_pass_84 : decode cX11_pass 84 = .ok (.aaload, 1) := by decide +kernel
theorem dX11_pass_85 : decode cX11_pass 85 = .ok (.iconst 0, 1) := by decide +kernel
theorem dX11_pass_86 : decode cX11_pass 86 = .ok (.iaload, 1) := by decide +kernel
theorem dX11_pass_87 : decode cX11_pass 87 = .ok (.iload 6, 2) := by decide +kernel
theorem dX11_pass_89 : decode cX11_pass 89 = .ok (.ifCond .eq 7, 3) := by decide +kernel
theorem dX11_pass_92 : decode cX11_pass 92 = .ok (.iconst 2, 1) := by decide +kernel
theorem dX11_pass_93 : decode cX11_pass 93 = .ok (.goto 4, 3) := by decide +kernel
theorem dX11_pass_96 : decode cX11_pass 96 = .ok (.iconst 1, 1) := by decide +kernel
theorem dX11_pass_97 : decode cX11_pass 97 = .ok (.imul, 1) := by decide +kernel
theorem dX11_pass_98 : decode cX11_pass 98 = .ok (.iadd, 1) := by decide +kernel
theorem dX11_pass_99 : decode cX11_pass 99 = .ok (.iastore, 1) := by decide +kernel
theorem dX11_pass_100 : decode cX11_pass 100 = .ok (.aload 4, 2) := by decide +kernel
theorem dX11_pass_102 : decode cX11_pass 102 = .ok (.iconst 4, 1) := by decide +kernel
theorem dX11_pass_103 : decode cX11_pass 103 = .ok (.iaload, 1) := by decide +kernel
theorem dX11_pass_104 : decode cX11_pass 104 = .ok (.aload 5, 2) := by decide +kernel
theorem dX11_pass_106 : decode cX11_pass 106 = .ok (.iconst 0, 1) := by decide +kernel
theorem dX11_pass_107 : decode cX11_pass 107 = .ok (.iaload, 1) := by decide +kernel
theorem dX11_pass_108 : decode cX11_pass 108 = .ok (.aload_n 0, 1) := by decide +kernel
theorem dX11_pass_109 : decode cX11_pass 109 = .ok (.getfield 15, 3) := by decide +kernel
theorem dX11_pass_112 : decode cX11_pass 112 = .ok (.aload 4, 2) := by decide +kernel
theorem dX11_pass_114 : decode cX11_pass 114 = .ok (.iconst 2, 1) := by decide +kernel
theorem dX11_pass_115 : decode cX11_pass 115 = .ok (.iaload, 1) := by decide +kernel
theorem dX11_pass_116 : decode cX11_pass 116 = .ok (.aaload, 1) := by decide +kernel
theorem dX11_pass_117 : decode cX11_pass 117 = .ok (.iconst 1, 1) := by decide +kernel
theorem dX11_pass_118 : decode cX11_pass 118 = .ok (.iaload, 1) := by decide +kernel
theorem dX11_pass_119 : decode cX11_pass 119 = .ok (.imul, 1) := by decide +kernel
theorem dX11_pass_120 : decode cX11_pass 120 = .ok (.iconst 2, 1) := by decide +kernel
theorem dX11_pass_121 : decode cX11_pass 121 = .ok (.imul, 1) := by decide +kernel
theorem dX11_pass_122 : decode cX11_pass 122 = .ok (.if_icmp .ge 6, 3) := by decide +kernel
theorem dX11_pass_125 : decode cX11_pass 125 = .ok (.goto 88, 3) := by decide +kernel
theorem dX11_pass_128 : decode cX11_pass 128 = .ok (.aload 4, 2) := by decide +kernel
theorem dX11_pass_130 : decode cX11_pass 130 = .ok (.iconst 4, 1) := by decide +kernel
theorem dX11_pass_131 : decode cX11_pass 131 = .ok (.iconst 0, 1) := by decide +kernel
theorem dX11_pass_132 : decode cX11_pass 132 = .ok (.iastore, 1) := by decide +kernel
theorem dX11_pass_133 : decode cX11_pass 133 = .ok (.aload 5, 2) := by decide +kernel
theorem dX11_pass_135 : decode cX11_pass 135 = .ok (.iconst 1, 1) := by decide +kernel
theorem dX11_pass_136 : decode cX11_pass 136 = .ok (.aload 4, 2) := by decide +kernel
theorem dX11_pass_138 : decode cX11_pass 138 = .ok (.iconst 2, 1) := by decide +kernel
theorem dX11_pass_139 : decode cX11_pass 139 = .ok (.iaload, 1) := by decide +kernel
theorem dX11_pass_140 : decode cX11_pass 140 = .ok (.iastore, 1) := by decide +kernel
theorem dX11_pass_141 : decode cX11_pass 141 = .ok (.aload 5, 2) := by decide +kernel
theorem dX11_pass_143 : decode cX11_pass 143 = .ok (.iconst 2, 1) := by decide +kernel
theorem dX11_pass_144 : decode cX11_pass 144 = .ok (.aload_n 0, 1) := by decide +kernel
theorem dX11_pass_145 : decode cX11_pass 145 = .ok (.getfield 19, 3) := by decide +kernel
theorem dX11_pass_148 : decode cX11_pass 148 = .ok (.iload_n 2, 1) := by decide +kernel
theorem dX11_pass_149 : decode cX11_pass 149 = .ok (.aaload, 1) := by decide +kernel
theorem dX11_pass_150 : decode cX11_pass 150 = .ok (.iconst 0, 1) := by decide +kernel
theorem dX11_pass_151 : decode cX11_pass 151 = .ok (.iaload, 1) := by decide +kernel
theorem dX11_pass_152 : decode cX11_pass 152 = .ok (.iconst 3, 1) := by decide +kernel
theorem dX11_pass_153 : decode cX11_pass 153 = .ok (.imul, 1) := by decide +kernel
theorem dX11_pass_154 : decode cX11_pass 154 = .ok (.aload 5, 2) := by decide +kernel
theorem dX11_pass_156 : decode cX11_pass 156 = .ok (.iconst 0, 1) := by decide +kernel
theorem dX11_pass_157 : decode cX11_pass 157 = .ok (.iaload, 1) := by decide +kernel
theorem dX11_pass_158 : decode cX11_pass 158 = .ok (.isub, 1) := by decide +kernel
theorem dX11_pass_159 : decode cX11_pass 159 = .ok (.iastore, 1) := by decide +kernel
theorem dX11_pass_160 : decode cX11_pass 160 = .ok (.iload 6, 2) := by decide +kernel
theorem dX11_pass_162 : decode cX11_pass 162 = .ok (.ifCond .eq 11, 3) := by decide +kernel
theorem dX11_pass_165 : decode cX11_pass 165 = .ok (.aload 5, 2) := by decide +kernel
theorem dX11_pass_167 : decode cX11_pass 167 = .ok (.iconst 2, 1) := by decide +kernel
theorem dX11_pass_168 : decode cX11_pass 168 = .ok (.dup2, 1) := by decide +kernel
theorem dX11_pass_169 : decode cX11_pass 169 = .ok (.iaload, 1) := by decide +kernel
theorem dX11_pass_170 : decode cX11_pass 170 = .ok (.iconst 5, 1) := by decide +kernel
theorem dX11_pass_171 : decode cX11_pass 171 = .ok (.iadd, 1) := by decide +kernel
theorem dX11_pass_172 : decode cX11_pass 172 = .ok (.iastore, 1) := by decide +kernel
theorem dX11_pass_173 : decode cX11_pass 173 = .ok (.aload 5, 2) := by decide +kernel
theorem dX11_pass_175 : decode cX11_pass 175 = .ok (.iconst 2, 1) := by decide +kernel
theorem dX11_pass_176 : decode cX11_pass 176 = .ok (.iaload, 1) := by decide +kernel
theorem dX11_pass_177 : decode cX11_pass 177 = .ok (.iconst 1, 1) := by decide +kernel
theorem dX11_pass_178 : decode cX11_pass 178 = .ok (.if_icmp .ge 8, 3) := by decide +kernel
theorem dX11_pass_181 : decode cX11_pass 181 = .ok (.aload 5, 2) := by decide +kernel
theorem dX11_pass_183 : decode cX11_pass 183 = .ok (.iconst 2, 1) := by decide +kernel
theorem dX11_pass_184 : decode cX11_pass 184 = .ok (.iconst 1, 1) := by decide +kernel
theorem dX11_pass_185 : decode cX11_pass 185 = .ok (.iastore, 1) := by decide +kernel
theorem dX11_pass_186 : decode cX11_pass 186 = .ok (.aload 5, 2) := by decide +kernel
theorem dX11_pass_188 : decode cX11_pass 188 = .ok (.iconst 3, 1) := by decide +kernel
theorem dX11_pass_189 : decode cX11_pass 189 = .ok (.iconst 0, 1) := by decide +kernel
theorem dX11_pass_190 : decode cX11_pass 190 = .ok (.iastore, 1) := by decide +kernel
theorem dX11_pass_191 : decode cX11_pass 191 = .ok (.aload_n 0, 1) := by decide +kernel
theorem dX11_pass_192 : decode cX11_pass 192 = .ok (.getfield 19, 3) := by decide +kernel
theorem dX11_pass_195 : decode cX11_pass 195 = .ok (.iload_n 2, 1) := by decide +kernel
theorem dX11_pass_196 : decode cX11_pass 196 = .ok (.aaload, 1) := by decide +kernel
theorem dX11_pass_197 : decode cX11_pass 197 = .ok (.iconst 3, 1) := by decide +kernel
theorem dX11_pass_198 : decode cX11_pass 198 = .ok (.dup2, 1) := by decide +kernel
theorem dX11_pass_199 : decode cX11_pass 199 = .ok (.iaload, 1) := by decide +kernel
theorem dX11_pass_200 : decode cX11_pass 200 = .ok (.iconst 1, 1) := by decide +kernel
theorem dX11_pass_201 : decode cX11_pass 201 = .ok (.iadd, 1) := by decide +kernel
theorem dX11_pass_202 : decode cX11_pass 202 = .ok (.iastore, 1) := by decide +kernel
theorem dX11_pass_203 : decode cX11_pass 203 = .ok (.aload_n 0, 1) := by decide +kernel
theorem dX11_pass_204 : decode cX11_pass 204 = .ok (.dup, 1) := by decide +kernel
theorem dX11_pass_205 : decode cX11_pass 205 = .ok (.getfield 64, 3) := by decide +kernel
theorem dX11_pass_208 : decode cX11_pass 208 = .ok (.iconst 1, 1) := by decide +kernel
theorem dX11_pass_209 : decode cX11_pass 209 = .ok (.iadd, 1) := by decide +kernel
theorem dX11_pass_210 : decode cX11_pass 210 = .ok (.putfield 64, 3) := by decide +kernel
theorem dX11_pass_213 : decode cX11_pass 213 = .ok (.iinc 2 1, 3) := by decide +kernel
theorem dX11_pass_216 : decode cX11_pass 216 = .ok (.goto (-214), 3) := by decide +kernel
theorem dX11_pass_219 : decode cX11_pass 219 = .ok (.aload_n 0, 1) := by decide +kernel
theorem dX11_pass_220 : decode cX11_pass 220 = .ok (.getfield 28, 3) := by decide +kernel
theorem dX11_pass_223 : decode cX11_pass 223 = .ok (.astore_n 2, 1) := by decide +kernel
theorem dX11_pass_224 : decode cX11_pass 224 = .ok (.aload_n 2, 1) := by decide +kernel
theorem dX11_pass_225 : decode cX11_pass 225 = .ok (.arraylength, 1) := by decide +kernel
theorem dX11_pass_226 : decode cX11_pass 226 = .ok (.istore_n 3, 1) := by decide +kernel
theorem dX11_pass_227 : decode cX11_pass 227 = .ok (.iconst 0, 1) := by decide +kernel
theorem dX11_pass_228 : decode cX11_pass 228 = .ok (.istore 4, 2) := by decide +kernel
theorem dX11_pass_230 : decode cX11_pass 230 = .ok (.iload 4, 2) := by decide +kernel
theorem dX11_pass_232 : decode cX11_pass 232 = .ok (.iload_n 3, 1) := by decide +kernel
theorem dX11_pass_233 : decode cX11_pass 233 = .ok (.if_icmp .ge 44, 3) := by decide +kernel
theorem dX11_pass_236 : decode cX11_pass 236 = .ok (.aload_n 2, 1) := by decide +kernel
theorem dX11_pass_237 : decode cX11_pass 237 = .ok (.iload 4, 2) := by decide +kernel
theorem dX11_pass_239 : decode cX11_pass 239 = .ok (.aaload, 1) := by decide +kernel
theorem dX11_pass_240 : decode cX11_pass 240 = .ok (.astore 5, 2) := by decide +kernel
theorem dX11_pass_242 : decode cX11_pass 242 = .ok (.aload 5, 2) := by decide +kernel
theorem dX11_pass_244 : decode cX11_pass 244 = .ok (.iconst 0, 1) := by decide +kernel
theorem dX11_pass_245 : decode cX11_pass 245 = .ok (.iaload, 1) := by decide +kernel
theorem dX11_pass_246 : decode cX11_pass 246 = .ok (.iconst 1, 1) := by decide +kernel
theorem dX11_pass_247 : decode cX11_pass 247 = .ok (.if_icmp .ne 24, 3) := by decide +kernel
theorem dX11_pass_250 : decode cX11_pass 250 = .ok (.aload_n 0, 1) := by decide +kernel
theorem dX11_pass_251 : decode cX11_pass 251 = .ok (.aload 5, 2) := by decide +kernel
theorem dX11_pass_253 : decode cX11_pass 253 = .ok (.invokevirtual 50, 3) := by decide +kernel
theorem dX11_pass_256 : decode cX11_pass 256 = .ok (.ifCond .eq 15, 3) := by decide +kernel
theorem dX11_pass_259 : decode cX11_pass 259 = .ok (.aload_n 0, 1) := by decide +kernel
theorem dX11_pass_260 : decode cX11_pass 260 = .ok (.getfield 22, 3) := by decide +kernel
theorem dX11_pass_263 : decode cX11_pass 263 = .ok (.aload 5, 2) := by decide +kernel
theorem dX11_pass_265 : decode cX11_pass 265 = .ok (.iconst 1, 1) := by decide +kernel
theorem dX11_pass_266 : decode cX11_pass 266 = .ok (.iaload, 1) := by decide +kernel
theorem dX11_pass_267 : decode cX11_pass 267 = .ok (.aaload, 1) := by decide +kernel
theorem dX11_pass_268 : decode cX11_pass 268 = .ok (.iconst 4, 1) := by decide +kernel
theorem dX11_pass_269 : decode cX11_pass 269 = .ok (.iconst 0, 1) := by decide +kernel
theorem dX11_pass_270 : decode cX11_pass 270 = .ok (.iastore, 1) := by decide +kernel
theorem dX11_pass_271 : decode cX11_pass 271 = .ok (.iinc 4 1, 3) := by decide +kernel
theorem dX11_pass_274 : decode cX11_pass 274 = .ok (.goto (-44), 3) := by decide +kernel
theorem dX11_pass_277 : decode cX11_pass 277 = .ok (.aload_n 0, 1) := by decide +kernel
theorem dX11_pass_278 : decode cX11_pass 278 = .ok (.getfield 22, 3) := by decide +kernel
theorem dX11_pass_281 : decode cX11_pass 281 = .ok (.arraylength, 1) := by decide +kernel
theorem dX11_pass_282 : decode cX11_pass 282 = .ok (.iconst 2, 1) := by decide +kernel
theorem dX11_pass_283 : decode cX11_pass 283 = .ok (.iadd, 1) := by decide +kernel
theorem dX11_pass_284 : decode cX11_pass 284 = .ok (.newarray .int, 2) := by decide +kernel
theorem dX11_pass_286 : decode cX11_pass 286 = .ok (.astore_n 2, 1) := by decide +kernel
theorem dX11_pass_287 : decode cX11_pass 287 = .ok (.iconst 0, 1) := by decide +kernel
theorem dX11_pass_288 : decode cX11_pass 288 = .ok (.istore_n 3, 1) := by decide +kernel
theorem dX11_pass_289 : decode cX11_pass 289 = .ok (.iload_n 3, 1) := by decide +kernel
theorem dX11_pass_290 : decode cX11_pass 290 = .ok (.aload_n 0, 1) := by decide +kernel
theorem dX11_pass_291 : decode cX11_pass 291 = .ok (.getfield 22, 3) := by decide +kernel
theorem dX11_pass_294 : decode cX11_pass 294 = .ok (.arraylength, 1) := by decide +kernel
theorem dX11_pass_295 : decode cX11_pass 295 = .ok (.if_icmp .ge 64, 3) := by decide +kernel
theorem dX11_pass_298 : decode cX11_pass 298 = .ok (.aload_n 2, 1) := by decide +kernel
theorem dX11_pass_299 : decode cX11_pass 299 = .ok (.iload_n 3, 1) := by decide +kernel
theorem dX11_pass_300 : decode cX11_pass 300 = .ok (.iconst 1, 1) := by decide +kernel
theorem dX11_pass_301 : decode cX11_pass 301 = .ok (.iadd, 1) := by decide +kernel
theorem dX11_pass_302 : decode cX11_pass 302 = .ok (.aload_n 0, 1) := by decide +kernel
theorem dX11_pass_303 : decode cX11_pass 303 = .ok (.getfield 22, 3) := by decide +kernel
theorem dX11_pass_306 : decode cX11_pass 306 = .ok (.iload_n 3, 1) := by decide +kernel
theorem dX11_pass_307 : decode cX11_pass 307 = .ok (.aaload, 1) := by decide +kernel
theorem dX11_pass_308 : decode cX11_pass 308 = .ok (.iconst 3, 1) := by decide +kernel
theorem dX11_pass_309 : decode cX11_pass 309 = .ok (.iaload, 1) := by decide +kernel
theorem dX11_pass_310 : decode cX11_pass 310 = .ok (.iastore, 1) := by decide +kernel
theorem dX11_pass_311 : decode cX11_pass 311 = .ok (.aload_n 0, 1) := by decide +kernel
theorem dX11_pass_312 : decode cX11_pass 312 = .ok (.getfield 22, 3) := by decide +kernel
theorem dX11_pass_315 : decode cX11_pass 315 = .ok (.iload_n 3, 1) := by decide +kernel
theorem dX11_pass_316 : decode cX11_pass 316 = .ok (.aaload, 1) := by decide +kernel
theorem dX11_pass_317 : decode cX11_pass 317 = .ok (.iconst 4, 1) := by decide +kernel
theorem dX11_pass_318 : decode cX11_pass 318 = .ok (.iaload, 1) := by decide +kernel
theorem dX11_pass_319 : decode cX11_pass 319 = .ok (.bipush 20, 2) := by decide +kernel
theorem dX11_pass_321 : decode cX11_pass 321 = .ok (.if_icmp .ge 32, 3) := by decide +kernel
theorem dX11_pass_324 : decode cX11_pass 324 = .ok (.aload_n 0, 1) := by decide +kernel
theorem dX11_pass_325 : decode cX11_pass 325 = .ok (.getfield 7, 3) := by decide +kernel
theorem dX11_pass_328 : decode cX11_pass 328 = .ok (.iconst 3, 1) := by decide +kernel
theorem dX11_pass_329 : decode cX11_pass 329 = .ok (.if_icmp .gt 12, 3) := by decide +kernel
theorem dX11_pass_332 : decode cX11_pass 332 = .ok (.aload_n 0, 1) := by decide +kernel
theorem dX11_pass_333 : decode cX11_pass 333 = .ok (.getfield 31, 3) := by decide +kernel
theorem dX11_pass_336 : decode cX11_pass 336 = .ok (.iconst 3, 1) := by decide +kernel
theorem dX11_pass_337 : decode cX11_pass 337 = .ok (.irem, 1) := by decide +kernel
theorem dX11_pass_338 : decode cX11_pass 338 = .ok (.ifCond .ne 15, 3) := by decide +kernel
theorem dX11_pass_341 : decode cX11_pass 341 = .ok (.aload_n 0, 1) := by decide +kernel
theorem dX11_pass_342 : decode cX11_pass 342 = .ok (.getfield 22, 3) := by decide +kernel
theorem dX11_pass_345 : decode cX11_pass 345 = .ok (.iload_n 3, 1) := by decide +kernel
theorem dX11_pass_346 : decode cX11_pass 346 = .ok (.aaload, 1) := by decide +kernel
theorem dX11_pass_347 : decode cX11_pass 347 = .ok (.iconst 4, 1) := by decide +kernel
theorem dX11_pass_348 : decode cX11_pass 348 = .ok (.dup2, 1) := by decide +kernel
theorem dX11_pass_349 : decode cX11_pass 349 = .ok (.iaload, 1) := by decide +kernel
theorem dX11_pass_350 : decode cX11_pass 350 = .ok (.iconst 1, 1) := by decide +kernel
theorem dX11_pass_351 : decode cX11_pass 351 = .ok (.iadd, 1) := by decide +kernel
theorem dX11_pass_352 : decode cX11_pass 352 = .ok (.iastore, 1) := by decide +kernel
theorem dX11_pass_353 : decode cX11_pass 353 = .ok (.iinc 3 1, 3) := by decide +kernel
theorem dX11_pass_356 : decode cX11_pass 356 = .ok (.goto (-67), 3) := by decide +kernel
theorem dX11_pass_359 : decode cX11_pass 359 = .ok (.iconst 0, 1) := by decide +kernel
theorem dX11_pass_360 : decode cX11_pass 360 = .ok (.istore_n 3, 1) := by decide +kernel
theorem dX11_pass_361 : decode cX11_pass 361 = .ok (.iload_n 3, 1) := by decide +kernel
theorem dX11_pass_362 : decode cX11_pass 362 = .ok (.aload_n 0, 1) := by decide +kernel
theorem dX11_pass_363 : decode cX11_pass 363 = .ok (.getfield 22, 3) := by decide +kernel
theorem dX11_pass_366 : decode cX11_pass 366 = .ok (.arraylength, 1) := by decide +kernel
theorem dX11_pass_367 : decode cX11_pass 367 = .ok (.if_icmp .ge 115, 3) := by decide +kernel
theorem dX11_pass_370 : decode cX11_pass 370 = .ok (.aload_n 0, 1) := by decide +kernel
theorem dX11_pass_371 : decode cX11_pass 371 = .ok (.getfield 22, 3) := by decide +kernel
theorem dX11_pass_374 : decode cX11_pass 374 = .ok (.iload_n 3, 1) := by decide +kernel
theorem dX11_pass_375 : decode cX11_pass 375 = .ok (.aaload, 1) := by decide +kernel
theorem dX11_pass_376 : decode cX11_pass 376 = .ok (.astore 4, 2) := by decide +kernel
theorem dX11_pass_378 : decode cX11_pass 378 = .ok (.aload_n 2, 1) := by decide +kernel
theorem dX11_pass_379 : decode cX11_pass 379 = .ok (.iload_n 3, 1) := by decide +kernel
theorem dX11_pass_380 : decode cX11_pass 380 = .ok (.iconst 1, 1) := by decide +kernel
theorem dX11_pass_381 : decode cX11_pass 381 = .ok (.iadd, 1) := by decide +kernel
theorem dX11_pass_382 : decode cX11_pass 382 = .ok (.iaload, 1) := by decide +kernel
theorem dX11_pass_383 : decode cX11_pass 383 = .ok (.aload_n 0, 1) := by decide +kernel
theorem dX11_pass_384 : decode cX11_pass 384 = .ok (.getfield 7, 3) := by decide +kernel
theorem dX11_pass_387 : decode cX11_pass 387 = .ok (.iconst 2, 1) := by decide +kernel
theorem dX11_pass_388 : decode cX11_pass 388 = .ok (.idiv, 1) := by decide +kernel
theorem dX11_pass_389 : decode cX11_pass 389 = .ok (.iadd, 1) := by decide +kernel
theorem dX11_pass_390 : decode cX11_pass 390 = .ok (.aload 4, 2) := by decide +kernel
theorem dX11_pass_392 : decode cX11_pass 392 = .ok (.iconst 0, 1) := by decide +kernel
theorem dX11_pass_393 : decode cX11_pass 393 = .ok (.iaload, 1) := by decide +kernel
theorem dX11_pass_394 : decode cX11_pass 394 = .ok (.iconst 4, 1) := by decide +kernel
theorem dX11_pass_395 : decode cX11_pass 395 = .ok (.idiv, 1) := by decide +kernel
theorem dX11_pass_396 : decode cX11_pass 396 = .ok (.isub, 1) := by decide +kernel
theorem dX11_pass_397 : decode cX11_pass 397 = .ok (.istore 5, 2) := by decide +kernel
theorem dX11_pass_399 : decode cX11_pass 399 = .ok (.aload_n 2, 1) := by decide +kernel
theorem dX11_pass_400 : decode cX11_pass 400 = .ok (.iload_n 3, 1) := by decide +kernel
theorem dX11_pass_401 : decode cX11_pass 401 = .ok (.iaload, 1) := by decide +kernel
theorem dX11_pass_402 : decode cX11_pass 402 = .ok (.aload_n 2, 1) := by decide +kernel
theorem dX11_pass_403 : decode cX11_pass 403 = .ok (.iload_n 3, 1) := by decide +kernel
theorem dX11_pass_404 : decode cX11_pass 404 = .ok (.iconst 2, 1) := by decide +kernel
theorem dX11_pass_405 : decode cX11_pass 405 = .ok (.iadd, 1) := by decide +kernel
theorem dX11_pass_406 : decode cX11_pass 406 = .ok (.iaload, 1) := by decide +kernel
theorem dX11_pass_407 : decode cX11_pass 407 = .ok (.invokestatic 43, 3) := by decide +kernel
theorem dX11_pass_410 : decode cX11_pass 410 = .ok (.bipush 9, 2) := by decide +kernel
theorem dX11_pass_412 : decode cX11_pass 412 = .ok (.if_icmp .le 6, 3) := by decide +kernel
theorem dX11_pass_415 : decode cX11_pass 415 = .ok (.iinc 5 1, 3) := by decide +kernel
theorem dX11_pass_418 : decode cX11_pass 418 = .ok (.aload 4, 2) := by decide +kernel
theorem dX11_pass_420 : decode cX11_pass 420 = .ok (.iconst 3, 1) := by decide +kernel
theorem dX11_pass_421 : decode cX11_pass 421 = .ok (.iload 5, 2) := by decide +kernel
theorem dX11_pass_423 : decode cX11_pass 423 = .ok (.ifCond .ge 7, 3) := by decide +kernel
theorem dX11_pass_426 : decode cX11_pass 426 = .ok (.iconst 0, 1) := by decide +kernel
theorem dX11_pass_427 : decode cX11_pass 427 = .ok (.goto 17, 3) := by decide +kernel
theorem dX11_pass_430 : decode cX11_pass 430 = .ok (.iload 5, 2) := by decide +kernel
theorem dX11_pass_432 : decode cX11_pass 432 = .ok (.bipush 99, 2) := by decide +kernel
theorem dX11_pass_434 : decode cX11_pass 434 = .ok (.if_icmp .le 8, 3) := by decide +kernel
theorem dX11_pass_437 : decode cX11_pass 437 = .ok (.bipush 99, 2) := by decide +kernel
theorem dX11_pass_439 : decode cX11_pass 439 = .ok (.goto 5, 3) := by decide +kernel
theorem dX11_pass_442 : decode cX11_pass 442 = .ok (.iload 5, 2) := by decide +kernel
theorem dX11_pass_444 : decode cX11_pass 444 = .ok (.iastore, 1) := by decide +kernel
theorem dX11_pass_445 : decode cX11_pass 445 = .ok (.aload 4, 2) := by decide +kernel
theorem dX11_pass_447 : decode cX11_pass 447 = .ok (.iconst 3, 1) := by decide +kernel
theorem dX11_pass_448 : decode cX11_pass 448 = .ok (.iaload, 1) := by decide +kernel
theorem dX11_pass_449 : decode cX11_pass 449 = .ok (.bipush 29, 2) := by decide +kernel
theorem dX11_pass_451 : decode cX11_pass 451 = .ok (.if_icmp .le 25, 3) := by decide +kernel
theorem dX11_pass_454 : decode cX11_pass 454 = .ok (.aload 4, 2) := by decide +kernel
theorem dX11_pass_456 : decode cX11_pass 456 = .ok (.iconst 1, 1) := by decide +kernel
theorem dX11_pass_457 : decode cX11_pass 457 = .ok (.iaload, 1) := by decide +kernel
theorem dX11_pass_458 : decode cX11_pass 458 = .ok (.ifCond .lt 18, 3) := by decide +kernel
theorem dX11_pass_461 : decode cX11_pass 461 = .ok (.aload 4, 2) := by decide +kernel
theorem dX11_pass_463 : decode cX11_pass 463 = .ok (.iconst 2, 1) := by decide +kernel
theorem dX11_pass_464 : decode cX11_pass 464 = .ok (.iaload, 1) := by decide +kernel
theorem dX11_pass_465 : decode cX11_pass 465 = .ok (.ifCond .le 11, 3) := by decide +kernel
theorem dX11_pass_468 : decode cX11_pass 468 = .ok (.aload 4, 2) := by decide +kernel
theorem dX11_pass_470 : decode cX11_pass 470 = .ok (.iconst 2, 1) := by decide +kernel
theorem dX11_pass_471 : decode cX11_pass 471 = .ok (.dup2, 1) := by decide +kernel
theorem dX11_pass_472 : decode cX11_pass 472 = .ok (.iaload, 1) := by decide +kernel
theorem dX11_pass_473 : decode cX11_pass 473 = .ok (.iconst 1, 1) := by decide +kernel
theorem dX11_pass_474 : decode cX11_pass 474 = .ok (.isub, 1) := by decide +kernel
theorem dX11_pass_475 : decode cX11_pass 475 = .ok (.iastore, 1) := by decide +kernel
theorem dX11_pass_476 : decode cX11_pass 476 = .ok (.iinc 3 1, 3) := by decide +kernel
theorem dX11_pass_479 : decode cX11_pass 479 = .ok (.goto (-118), 3) := by decide +kernel
theorem dX11_pass_482 : decode cX11_pass 482 = .ok (.aload_n 0, 1) := by decide +kernel
theorem dX11_pass_483 : decode cX11_pass 483 = .ok (.invokevirtual 67, 3) := by decide +kernel
theorem dX11_pass_486 : decode cX11_pass 486 = .ok (.istore_n 3, 1) := by decide +kernel
theorem dX11_pass_487 : decode cX11_pass 487 = .ok (.iload_n 3, 1) := by decide +kernel
theorem dX11_pass_488 : decode cX11_pass 488 = .ok (.ifCond .lt 30, 3) := by decide +kernel
theorem dX11_pass_491 : decode cX11_pass 491 = .ok (.aload_n 0, 1) := by decide +kernel
theorem dX11_pass_492 : decode cX11_pass 492 = .ok (.iload_n 3, 1) := by decide +kernel
theorem dX11_pass_493 : decode cX11_pass 493 = .ok (.invokevirtual 71, 3) := by decide +kernel
theorem dX11_pass_496 : decode cX11_pass 496 = .ok (.bipush 9, 2) := by decide +kernel
theorem dX11_pass_498 : decode cX11_pass 498 = .ok (.if_icmp .le 20, 3) := by decide +kernel
theorem dX11_pass_501 : decode cX11_pass 501 = .ok (.aload_n 0, 1) := by decide +kernel
theorem dX11_pass_502 : decode cX11_pass 502 = .ok (.dup, 1) := by decide +kernel
theorem dX11_pass_503 : decode cX11_pass 503 = .ok (.getfield 34, 3) := by decide +kernel
theorem dX11_pass_506 : decode cX11_pass 506 = .ok (.aload_n 0, 1) := by decide +kernel
theorem dX11_pass_507 : decode cX11_pass 507 = .ok (.iload_n 3, 1) := by decide +kernel
theorem dX11_pass_508 : decode cX11_pass 508 = .ok (.invokevirtual 71, 3) := by decide +kernel
theorem dX11_pass_511 : decode cX11_pass 511 = .ok (.bipush 10, 2) := by decide +kernel
theorem dX11_pass_513 : decode cX11_pass 513 = .ok (.idiv, 1) := by decide +kernel
theorem dX11_pass_514 : decode cX11_pass 514 = .ok (.iadd, 1) := by decide +kernel
theorem dX11_pass_515 : decode cX11_pass 515 = .ok (.putfield 34, 3) := by decide +kernel
theorem dX11_pass_518 : decode cX11_pass 518 = .ok (.aload_n 0, 1) := by decide +kernel
theorem dX11_pass_519 : decode cX11_pass 519 = .ok (.dup, 1) := by decide +kernel
theorem dX11_pass_520 : decode cX11_pass 520 = .ok (.getfield 31, 3) := by decide +kernel
theorem dX11_pass_523 : decode cX11_pass 523 = .ok (.iconst 1, 1) := by decide +kernel
theorem dX11_pass_524 : decode cX11_pass 524 = .ok (.iadd, 1) := by decide +kernel
theorem dX11_pass_525 : decode cX11_pass 525 = .ok (.putfield 31, 3) := by decide +kernel
theorem dX11_pass_528 : decode cX11_pass 528 = .ok (.return_, 1) := by decide +kernel
set_option maxHeartbeats 20000000 in
set_option maxRecDepth 100000 in
/-- Sim.pass, with all carvers -/
theorem c_X11_pass (l9 : Launch) (z : Nat → Nat) (D : va_G) (g : Nat → ClassId) (sm : Nat) (ob : Nat → Nat) (ad : Nat → Nat → Nat) (tn : Nat → Nat) (tr : Nat → Nat → Int32) (od : Nat → Nat → Nat) (c : CS) (dd : Nat) (m : Nat) (hO : SOKs tn tr od) (hC : CIn tn c dd m) (sz : Nat) : Met l9 yX11_pass (WS yX11_pass cX11_pass 7 none) ({ frames := 3, cells := 1, slots := 8, locals := 64 }) (va_Pc [.ref sm, .int (-1)] (kPre z D g (([(sm, .inr (9, [.int c.1.1, .int c.1.2.1, .int c.1.2.2.1, .int c.2.1, .ref (ob 0), .ref (ob 1), .ref (ob 2), .ref (ob 3), .ref (ob 4)])), (ob 0, .inl (g 4, tn 0, .inr (.inr (.inr (.inr (bld (ad 0) (tn 0))))))), (ob 1, .inl (g 4, tn 1, .inr (.inr (.inr (.inr (bld (ad 1) (tn 1))))))), (ob 2, .inl (g 4, tn 2, .inr (.inr (.inr (.inr (bld (ad 2) (tn 2))))))), (ob 3, .inl (g 4, tn 3, .inr (.inr (.inr (.inr (bld (ad 3) (tn 3))))))), (ob 4, .inl (g 4, tn 4, .inr (.inr (.inr (.inr (bld (ad 4) (tn 4)))))))] : va_W) ++ simW (g 0) ad tn (simM tr od c)) sz)) (va_Qv (fun (u9 : Unit) => True) (kB D g (va_A (([(sm, .inr (9, [.int c.1.1, .int c.1.2.1, .int c.1.2.2.1, .int c.2.1, .ref (ob 0), .ref (ob 1), .ref (ob 2), .ref (ob 3), .ref (ob 4)])), (ob 0, .inl (g 4, tn 0, .inr (.inr (.inr (.inr (bld (ad 0) (tn 0))))))), (ob 1, .inl (g 4, tn 1, .inr (.inr (.inr (.inr (bld (ad 1) (tn 1))))))), (ob 2, .inl (g 4, tn 2, .inr (.inr (.inr (.inr (bld (ad 2) (tn 2))))))), (ob 3, .inl (g 4, tn 3, .inr (.inr (.inr (.inr (bld (ad 3) (tn 3))))))), (ob 4, .inl (g 4, tn 4, .inr (.inr (.inr (.inr (bld (ad 4) (tn 4)))))))] : va_W) ++ simW (g 0) ad tn (simM tr od c)) sz) (fun (u9 : Unit) => (([(sm, .inr (9, [.int ((fDay tr tn (fun j v => sHold tn (od j) v) (-1) c).1.1), .int ((fDay tr tn (fun j v => sHold tn (od j) v) (-1) c).1.2.1), .int ((fDay tr tn (fun j v => sHold tn (od j) v) (-1) c).1.2.2.1), .int ((fDay tr tn (fun j v => sHold tn (od j) v) (-1) c).2.1), .ref (ob 0), .ref (ob 1), .ref (ob 2), .ref (ob 3), .ref (ob 4)])), (ob 0, .inl (g 4, tn 0, .inr (.inr (.inr (.inr (bld (ad 0) (tn 0))))))), (ob 1, .inl (g 4, tn 1, .inr (.inr (.inr (.inr (bld (ad 1) (tn 1))))))), (ob 2, .inl (g 4, tn 2, .inr (.inr (.inr (.inr (bld (ad 2) (tn 2))))))), (ob 3, .inl (g 4, tn 3, .inr (.inr (.inr (.inr (bld (ad 3) (tn 3))))))), (ob 4, .inl (g 4, tn 4, .inr (.inr (.inr (.inr (bld (ad 4) (tn 4)))))))] : va_W) ++ simW (g 0) ad tn (simM tr od (fDay tr tn (fun j v => sHold tn (od j) v) (-1) c))))) (va_A (([(sm, .inr (9, [.int c.1.1, .int c.1.2.1, .int c.1.2.2.1, .int c.2.1, .ref (ob 0), .ref (ob 1), .ref (ob 2), .ref (ob 3), .ref (ob 4)])), (ob 0, .inl (g 4, tn 0, .inr (.inr (.inr (.inr (bld (ad 0) (tn 0))))))), (ob 1, .inl (g 4, tn 1, .inr (.inr (.inr (.inr (bld (ad 1) (tn 1))))))), (ob 2, .inl (g 4, tn 2, .inr (.inr (.inr (.inr (bld (ad 2) (tn 2))))))), (ob 3, .inl (g 4, tn 3, .inr (.inr (.inr (.inr (bld (ad 3) (tn 3))))))), (ob 4, .inl (g 4, tn 4, .inr (.inr (.inr (.inr (bld (ad 4) (tn 4)))))))] : va_W) ++ simW (g 0) ad tn (simM tr od c)) sz)) 1 8 (va_A (([(sm, .inr (9, [.int c.1.1, .int c.1.2.1, .int c.1.2.2.1, .int c.2.1, .ref (ob 0), .ref (ob 1), .ref (ob 2), .ref (ob 3), .ref (ob 4)])), (ob 0, .inl (g 4, tn 0, .inr (.inr (.inr (.inr (bld (ad 0) (tn 0))))))), (ob 1, .inl (g 4, tn 1, .inr (.inr (.inr (.inr (bld (ad 1) (tn 1))))))), (ob 2, .inl (g 4, tn 2, .inr (.inr (.inr (.inr (bld (ad 2) (tn 2))))))), (ob 3, .inl (g 4, tn 3, .inr (.inr (.inr (.inr (bld (ad 3) (tn 3))))))), (ob 4, .inl (g 4, tn 4, .inr (.inr (.inr (.inr (bld (ad 4) (tn 4)))))))] : va_W) ++ simW (g 0) ad tn (simM tr od c)) sz) := by
  refine Met.ofW (cc := cX11_pass) (maxL := 7) (ret := none) (by decide) rfl ?_
  intro p9 e9 s9 m9 args9 below9 meth9 c9 s₁ B hml hv
  obtain ⟨rfl, hsz, hP, hK, hD0, hZ⟩ := hv
  have hx := B.exec
  have hb := B.bytes
  have hr := B.returns
  have hts := ws_sub (atoms_spec (ws := WS yX11_pass cX11_pass 7 none) B.pre)
  have hown : s9.vm.findClass RX11 = some m9.cls := findClass_of_methodNamed B.named
  have hlocks := B.notSynchronized
  subst hsz
  have hD := hD0.self (sz := s9.heap.size)
  generalize hAe : va_A (([(sm, .inr (9, [.int c.1.1, .int c.1.2.1, .int c.1.2.2.1, .int c.2.1, .ref (ob 0), .ref (ob 1), .ref (ob 2), .ref (ob 3), .ref (ob 4)])), (ob 0, .inl (g 4, tn 0, .inr (.inr (.inr (.inr (bld (ad 0) (tn 0))))))), (ob 1, .inl (g 4, tn 1, .inr (.inr (.inr (.inr (bld (ad 1) (tn 1))))))), (ob 2, .inl (g 4, tn 2, .inr (.inr (.inr (.inr (bld (ad 2) (tn 2))))))), (ob 3, .inl (g 4, tn 3, .inr (.inr (.inr (.inr (bld (ad 3) (tn 3))))))), (ob 4, .inl (g 4, tn 4, .inr (.inr (.inr (.inr (bld (ad 4) (tn 4)))))))] : va_W) ++ simW (g 0) ad tn (simM tr od c)) s9.heap.size = A at hD hZ ⊢
  have hA : ∀ q : Nat, s9.heap.size ≤ q → A q := fun q h => by rw [← hAe]; exact Or.inr h
  have hS : va_S A s9.heap s9.heap [] := va_S.rf
  have hP : va_P D CLS (([(sm, .inr (9, [.int c.1.1, .int c.1.2.1, .int c.1.2.2.1, .int c.2.1, .ref (ob 0), .ref (ob 1), .ref (ob 2), .ref (ob 3), .ref (ob 4)])), (ob 0, .inl (g 4, tn 0, .inr (.inr (.inr (.inr (bld (ad 0) (tn 0))))))), (ob 1, .inl (g 4, tn 1, .inr (.inr (.inr (.inr (bld (ad 1) (tn 1))))))), (ob 2, .inl (g 4, tn 2, .inr (.inr (.inr (.inr (bld (ad 2) (tn 2))))))), (ob 3, .inl (g 4, tn 3, .inr (.inr (.inr (.inr (bld (ad 3) (tn 3))))))), (ob 4, .inl (g 4, tn 4, .inr (.inr (.inr (.inr (bld (ad 4) (tn 4)))))))] : va_W) ++ simW (g 0) ad tn (simM tr od c)) s9.heap := hP
  have hl := lv_entry ([.ref sm, .int (-1)]) (n := 7) (Nat.le_of_ble_eq_true rfl)
  rw [lg_entry_eq]
  generalize (lg_sl ([.ref sm, .int (-1)]) ++ List.replicate (7 - (lg_sl ([.ref sm, .int (-1)])).length) Slot.unset).toArray = ls at hl ⊢
  have hl : lv_has ls 7 [(0, .ref sm), (1, .int (-1))] := hl
  change W p9 l9 e9 ({ frames := 3, cells := 1, slots := 8, locals := 64 } : Room) s9 m9 _ below9 meth9 c9 _ _ _ _ _ _
  have hN := hO.1; unfold CntS at hN
  refine lv_iconst (v := 0) hx hb dX11_pass_0 (by decide) ?_
  refine lv_istore_n (lv' := [(2, .int 0), (0, .ref sm), (1, .int (-1))]) hx hb dX11_pass_1 rfl hl (by decide) rfl (fun ls hl => ?_)
  have loop_2 : ∀ (n9 : Nat) (i : Nat) (c2 : CS), n9 > tn 1 - i → (i ≤ tn 1) → (c2 = fCarv tr (tn 4) (fun j v => sHold tn (od j) v) (-1) c i) → ∀ (H : Heap) (locs : List Loc), va_P D CLS (([(sm, .inr (9, [.int c2.1.1, .int c2.1.2.1, .int c2.1.2.2.1, .int c2.2.1, .ref (ob 0), .ref (ob 1), .ref (ob 2), .ref (ob 3), .ref (ob 4)])), (ob 0, .inl (g 4, tn 0, .inr (.inr (.inr (.inr (bld (ad 0) (tn 0))))))), (ob 1, .inl (g 4, tn 1, .inr (.inr (.inr (.inr (bld (ad 1) (tn 1))))))), (ob 2, .inl (g 4, tn 2, .inr (.inr (.inr (.inr (bld (ad 2) (tn 2))))))), (ob 3, .inl (g 4, tn 3, .inr (.inr (.inr (.inr (bld (ad 3) (tn 3))))))), (ob 4, .inl (g 4, tn 4, .inr (.inr (.inr (.inr (bld (ad 4) (tn 4)))))))] : va_W) ++ simW (g 0) ad tn (simM tr od c2)) H → va_D A (([(sm, .inr (9, [.int c2.1.1, .int c2.1.2.1, .int c2.1.2.2.1, .int c2.2.1, .ref (ob 0), .ref (ob 1), .ref (ob 2), .ref (ob 3), .ref (ob 4)])), (ob 0, .inl (g 4, tn 0, .inr (.inr (.inr (.inr (bld (ad 0) (tn 0))))))), (ob 1, .inl (g 4, tn 1, .inr (.inr (.inr (.inr (bld (ad 1) (tn 1))))))), (ob 2, .inl (g 4, tn 2, .inr (.inr (.inr (.inr (bld (ad 2) (tn 2))))))), (ob 3, .inl (g 4, tn 3, .inr (.inr (.inr (.inr (bld (ad 3) (tn 3))))))), (ob 4, .inl (g 4, tn 4, .inr (.inr (.inr (.inr (bld (ad 4) (tn 4)))))))] : va_W) ++ simW (g 0) ad tn (simM tr od c2)) → va_S A s9.heap H locs → ∀ (ls : Array Slot), lv_has ls 7 [(0, .ref sm), (1, .int (-1)), (2, .int (nI i))] → W p9 l9 e9 ({ frames := 3, cells := 1, slots := 8, locals := 64 } : Room) s9 m9 ([.ref sm, .int (-1)] : List Value).toArray below9 meth9 c9 H locs 0 0 (MQ below9 (va_Qv (fun (u9 : Unit) => True) (kB D g A (fun (u9 : Unit) => (([(sm, .inr (9, [.int ((fDay tr tn (fun j v => sHold tn (od j) v) (-1) c).1.1), .int ((fDay tr tn (fun j v => sHold tn (od j) v) (-1) c).1.2.1), .int ((fDay tr tn (fun j v => sHold tn (od j) v) (-1) c).1.2.2.1), .int ((fDay tr tn (fun j v => sHold tn (od j) v) (-1) c).2.1), .ref (ob 0), .ref (ob 1), .ref (ob 2), .ref (ob 3), .ref (ob 4)])), (ob 0, .inl (g 4, tn 0, .inr (.inr (.inr (.inr (bld (ad 0) (tn 0))))))), (ob 1, .inl (g 4, tn 1, .inr (.inr (.inr (.inr (bld (ad 1) (tn 1))))))), (ob 2, .inl (g 4, tn 2, .inr (.inr (.inr (.inr (bld (ad 2) (tn 2))))))), (ob 3, .inl (g 4, tn 3, .inr (.inr (.inr (.inr (bld (ad 3) (tn 3))))))), (ob 4, .inl (g 4, tn 4, .inr (.inr (.inr (.inr (bld (ad 4) (tn 4)))))))] : va_W) ++ simW (g 0) ad tn (simM tr od (fDay tr tn (fun j v => sHold tn (od j) v) (-1) c))))) A) ([.ref sm, .int (-1)] : List Value).toArray s9 1 8 A) (F0 m9 2 ls []) := by
    intro n9
    induction n9 with
    | zero => intro i c2 hm9; exact absurd hm9 (by omega)
    | succ n9 ih_2 =>
      intro i c2 hm9 hi hc H locs hP hD hS ls hl
      have hC2 : CIn tn c2 dd m := by rw [hc]; exact carv_C hO hC i hi
      refine lv_iload_n hx hb dX11_pass_2 rfl (lv_at hl 2 rfl) ?_
      refine lv_aload_n hx hb dX11_pass_3 rfl (lv_at hl 0 rfl) ?_
      refine va_get (D := D) (ci := 9) (v := .ref (ob 1)) (C := RX11) (T := TX11) (N := 9) hx hb hts in_X11 hown hK hP 0 rfl rfl 5 (by decide) (hts _ w_1217) (fun _ h9 => h9) rfl dX11_pass_4 ?_
      refine va_alen (v := nI (tn 1)) hx hb hK hP 2 4 rfl rfl rfl dX11_pass_7 ?_
      refine lv_icmp_ge (tgt := 219) hx hb dX11_pass_8 (by decide) (fun c_8 => ?_) (fun c_8 => ?_)
      · skip
        have c_8 : (tn 1) ≤ i := (nI_leI (a := (tn 1)) (b := i) (by omega) (by omega)).mp c_8
        have hie : i = tn 1 := by omega
        rw [hie] at hc
        refine lv_aload_n hx hb dX11_pass_219 rfl (lv_at hl 0 rfl) ?_
        refine va_get (D := D) (ci := 9) (v := .ref (ob 4)) (C := RX11) (T := TX11) (N := 9) hx hb hts in_X11 hown hK hP 0 rfl rfl 8 (by decide) (hts _ w_1223) (fun _ h9 => h9) rfl dX11_pass_220 ?_
        refine lv_astore_n (lv' := [(2, .ref (ob 4)), (0, .ref sm), (1, .int (-1))]) hx hb dX11_pass_223 rfl hl (by decide) rfl (fun ls hl => ?_)
        refine lv_aload_n hx hb dX11_pass_224 rfl (lv_at hl 0 rfl) ?_
        refine va_alen (v := nI (tn 4)) hx hb hK hP 5 4 rfl rfl rfl dX11_pass_225 ?_
        refine lv_istore_n (lv' := [(3, .int (nI (tn 4))), (2, .ref (ob 4)), (0, .ref sm), (1, .int (-1))]) hx hb dX11_pass_226 rfl hl (by decide) rfl (fun ls hl => ?_)
        refine lv_iconst (v := 0) hx hb dX11_pass_227 (by decide) ?_
        refine lv_istore (lv' := [(4, .int 0), (3, .int (nI (tn 4))), (2, .ref (ob 4)), (0, .ref sm), (1, .int (-1))]) hx hb dX11_pass_228 hl (by decide) rfl (fun ls hl => ?_)
        have loop_230 : ∀ (n9 : Nat) (i : Nat) (c3 : CS), n9 > tn 4 - i → (i ≤ tn 4) → (c3 = fOilA tr (fun j v => sHold tn (od j) v) (fCarv tr (tn 4) (fun j v => sHold tn (od j) v) (-1) c (tn 1)) i) → ∀ (H : Heap) (locs : List Loc), va_P D CLS (([(sm, .inr (9, [.int c3.1.1, .int c3.1.2.1, .int c3.1.2.2.1, .int c3.2.1, .ref (ob 0), .ref (ob 1), .ref (ob 2), .ref (ob 3), .ref (ob 4)])), (ob 0, .inl (g 4, tn 0, .inr (.inr (.inr (.inr (bld (ad 0) (tn 0))))))), (ob 1, .inl (g 4, tn 1, .inr (.inr (.inr (.inr (bld (ad 1) (tn 1))))))), (ob 2, .inl (g 4, tn 2, .inr (.inr (.inr (.inr (bld (ad 2) (tn 2))))))), (ob 3, .inl (g 4, tn 3, .inr (.inr (.inr (.inr (bld (ad 3) (tn 3))))))), (ob 4, .inl (g 4, tn 4, .inr (.inr (.inr (.inr (bld (ad 4) (tn 4)))))))] : va_W) ++ simW (g 0) ad tn (simM tr od c3)) H → va_D A (([(sm, .inr (9, [.int c3.1.1, .int c3.1.2.1, .int c3.1.2.2.1, .int c3.2.1, .ref (ob 0), .ref (ob 1), .ref (ob 2), .ref (ob 3), .ref (ob 4)])), (ob 0, .inl (g 4, tn 0, .inr (.inr (.inr (.inr (bld (ad 0) (tn 0))))))), (ob 1, .inl (g 4, tn 1, .inr (.inr (.inr (.inr (bld (ad 1) (tn 1))))))), (ob 2, .inl (g 4, tn 2, .inr (.inr (.inr (.inr (bld (ad 2) (tn 2))))))), (ob 3, .inl (g 4, tn 3, .inr (.inr (.inr (.inr (bld (ad 3) (tn 3))))))), (ob 4, .inl (g 4, tn 4, .inr (.inr (.inr (.inr (bld (ad 4) (tn 4)))))))] : va_W) ++ simW (g 0) ad tn (simM tr od c3)) → va_S A s9.heap H locs → ∀ (ls : Array Slot), lv_has ls 7 [(0, .ref sm), (2, .ref (ob 4)), (3, .int (nI (tn 4))), (4, .int (nI i))] → W p9 l9 e9 ({ frames := 3, cells := 1, slots := 8, locals := 64 } : Room) s9 m9 ([.ref sm, .int (-1)] : List Value).toArray below9 meth9 c9 H locs 0 0 (MQ below9 (va_Qv (fun (u9 : Unit) => True) (kB D g A (fun (u9 : Unit) => (([(sm, .inr (9, [.int ((fDay tr tn (fun j v => sHold tn (od j) v) (-1) c).1.1), .int ((fDay tr tn (fun j v => sHold tn (od j) v) (-1) c).1.2.1), .int ((fDay tr tn (fun j v => sHold tn (od j) v) (-1) c).1.2.2.1), .int ((fDay tr tn (fun j v => sHold tn (od j) v) (-1) c).2.1), .ref (ob 0), .ref (ob 1), .ref (ob 2), .ref (ob 3), .ref (ob 4)])), (ob 0, .inl (g 4, tn 0, .inr (.inr (.inr (.inr (bld (ad 0) (tn 0))))))), (ob 1, .inl (g 4, tn 1, .inr (.inr (.inr (.inr (bld (ad 1) (tn 1))))))), (ob 2, .inl (g 4, tn 2, .inr (.inr (.inr (.inr (bld (ad 2) (tn 2))))))), (ob 3, .inl (g 4, tn 3, .inr (.inr (.inr (.inr (bld (ad 3) (tn 3))))))), (ob 4, .inl (g 4, tn 4, .inr (.inr (.inr (.inr (bld (ad 4) (tn 4)))))))] : va_W) ++ simW (g 0) ad tn (simM tr od (fDay tr tn (fun j v => sHold tn (od j) v) (-1) c))))) A) ([.ref sm, .int (-1)] : List Value).toArray s9 1 8 A) (F0 m9 230 ls []) := by
          intro n9
          induction n9 with
          | zero => intro i c3 hm9; exact absurd hm9 (by omega)
          | succ n9 ih_230 =>
            intro i c3 hm9 hi3 hc3 H locs hP hD hS ls hl
            have hC3 : CIn tn c3 dd m := by rw [hc3]; exact oil_C hO (carv_C hO hC (tn 1) (Nat.le_refl _)) i hi3
            refine lv_iload hx hb dX11_pass_230 (lv_at hl 3 rfl) ?_
            refine lv_iload_n hx hb dX11_pass_232 rfl (lv_at hl 2 rfl) ?_
            refine lv_icmp_ge (tgt := 277) hx hb dX11_pass_233 (by decide) (fun c_233 => ?_) (fun c_233 => ?_)
            · skip
              have c_233 : (tn 4) ≤ i := (nI_leI (a := (tn 4)) (b := i) (by omega) (by omega)).mp c_233
              have hie3 : i = tn 4 := by omega
              rw [hie3] at hc3
              refine lv_aload_n hx hb dX11_pass_277 rfl (lv_at hl 0 rfl) ?_
              refine va_get (D := D) (ci := 9) (v := .ref (ob 2)) (C := RX11) (T := TX11) (N := 9) hx hb hts in_X11 hown hK hP 0 rfl rfl 6 (by decide) (hts _ w_1219) (fun _ h9 => h9) rfl dX11_pass_278 ?_
              refine va_alen (v := nI (tn 2)) hx hb hK hP 3 4 rfl rfl rfl dX11_pass_281 ?_
              refine lv_iconst (v := 2) hx hb dX11_pass_282 (by decide) ?_
              refine lv_iadd hx hb dX11_pass_283 ?_
              refine k_topi (show ((nI (tn 2)) + 2) = (nI (tn 2 + 2)) from (nI_add (tn 2) 2)) ?_
              refine va_newa (atype := .int) (ty := .int) (N' := tn 2 + 2) (a0 := (tn 2 + 2, .inl (fun _ => 0))) hx hb (hts _ w_99) rfl hK hP hD hS hA (fun _ => rfl) (nI_pos (by omega)) (nI_clamp (by omega)) (by show (tn 2 + 2) * 4 ≤ _; omega) (Nat.le_of_ble_eq_true rfl) (by show 0 + (tn 2 + 2) ≤ 8; omega) dX11_pass_284 (fun q_1 cA H hK9 hP hD hS => ?_)
              replace hP := hP.swap
              replace hD := hD.swap
              obtain rfl := k_clsI hK hK9
              replace hP : va_P D CLS (([(sm, .inr (9, [.int c3.1.1, .int c3.1.2.1, .int c3.1.2.2.1, .int c3.2.1, .ref (ob 0), .ref (ob 1), .ref (ob 2), .ref (ob 3), .ref (ob 4)])), (ob 0, .inl (g 4, tn 0, .inr (.inr (.inr (.inr (bld (ad 0) (tn 0))))))), (ob 1, .inl (g 4, tn 1, .inr (.inr (.inr (.inr (bld (ad 1) (tn 1))))))), (ob 2, .inl (g 4, tn 2, .inr (.inr (.inr (.inr (bld (ad 2) (tn 2))))))), (ob 3, .inl (g 4, tn 3, .inr (.inr (.inr (.inr (bld (ad 3) (tn 3))))))), (ob 4, .inl (g 4, tn 4, .inr (.inr (.inr (.inr (bld (ad 4) (tn 4))))))), (q_1, .inl (g 0, tn 2 + 2, .inl (fun _ => 0)))] : va_W) ++ simW (g 0) ad tn (simM tr od c3)) H := hP
              replace hD : va_D A (([(sm, .inr (9, [.int c3.1.1, .int c3.1.2.1, .int c3.1.2.2.1, .int c3.2.1, .ref (ob 0), .ref (ob 1), .ref (ob 2), .ref (ob 3), .ref (ob 4)])), (ob 0, .inl (g 4, tn 0, .inr (.inr (.inr (.inr (bld (ad 0) (tn 0))))))), (ob 1, .inl (g 4, tn 1, .inr (.inr (.inr (.inr (bld (ad 1) (tn 1))))))), (ob 2, .inl (g 4, tn 2, .inr (.inr (.inr (.inr (bld (ad 2) (tn 2))))))), (ob 3, .inl (g 4, tn 3, .inr (.inr (.inr (.inr (bld (ad 3) (tn 3))))))), (ob 4, .inl (g 4, tn 4, .inr (.inr (.inr (.inr (bld (ad 4) (tn 4))))))), (q_1, .inl (g 0, tn 2 + 2, .inl (fun _ => 0)))] : va_W) ++ simW (g 0) ad tn (simM tr od c3)) := hD
              refine lv_astore_n (lv' := [(2, .ref q_1), (0, .ref sm), (3, .int (nI (tn 4))), (4, .int (nI i))]) hx hb dX11_pass_286 rfl hl (by decide) rfl (fun ls hl => ?_)
              refine lv_iconst (v := 0) hx hb dX11_pass_287 (by decide) ?_
              refine lv_istore_n (lv' := [(3, .int 0), (2, .ref q_1), (0, .ref sm), (4, .int (nI i))]) hx hb dX11_pass_288 rfl hl (by decide) rfl (fun ls hl => ?_)
              have loop_289 : ∀ (n9 : Nat) (i : Nat) (c4 : CS) (wv : Nat → Int32), n9 > tn 2 - i → (i ≤ tn 2) → (c4 = fRsI c3 i) → (wv = fWv c3.1.2.2.2.2.2.1 i) → ∀ (H : Heap) (locs : List Loc), va_P D CLS (([(sm, .inr (9, [.int c4.1.1, .int c4.1.2.1, .int c4.1.2.2.1, .int c4.2.1, .ref (ob 0), .ref (ob 1), .ref (ob 2), .ref (ob 3), .ref (ob 4)])), (ob 0, .inl (g 4, tn 0, .inr (.inr (.inr (.inr (bld (ad 0) (tn 0))))))), (ob 1, .inl (g 4, tn 1, .inr (.inr (.inr (.inr (bld (ad 1) (tn 1))))))), (ob 2, .inl (g 4, tn 2, .inr (.inr (.inr (.inr (bld (ad 2) (tn 2))))))), (ob 3, .inl (g 4, tn 3, .inr (.inr (.inr (.inr (bld (ad 3) (tn 3))))))), (ob 4, .inl (g 4, tn 4, .inr (.inr (.inr (.inr (bld (ad 4) (tn 4))))))), (q_1, .inl (g 0, tn 2 + 2, .inl wv))] : va_W) ++ simW (g 0) ad tn (simM tr od c4)) H → va_D A (([(sm, .inr (9, [.int c4.1.1, .int c4.1.2.1, .int c4.1.2.2.1, .int c4.2.1, .ref (ob 0), .ref (ob 1), .ref (ob 2), .ref (ob 3), .ref (ob 4)])), (ob 0, .inl (g 4, tn 0, .inr (.inr (.inr (.inr (bld (ad 0) (tn 0))))))), (ob 1, .inl (g 4, tn 1, .inr (.inr (.inr (.inr (bld (ad 1) (tn 1))))))), (ob 2, .inl (g 4, tn 2, .inr (.inr (.inr (.inr (bld (ad 2) (tn 2))))))), (ob 3, .inl (g 4, tn 3, .inr (.inr (.inr (.inr (bld (ad 3) (tn 3))))))), (ob 4, .inl (g 4, tn 4, .inr (.inr (.inr (.inr (bld (ad 4) (tn 4))))))), (q_1, .inl (g 0, tn 2 + 2, .inl wv))] : va_W) ++ simW (g 0) ad tn (simM tr od c4)) → va_S A s9.heap H locs → ∀ (ls : Array Slot), lv_has ls 7 [(0, .ref sm), (2, .ref q_1), (3, .int (nI i))] → W p9 l9 e9 ({ frames := 3, cells := 1, slots := 8, locals := 64 } : Room) s9 m9 ([.ref sm, .int (-1)] : List Value).toArray below9 meth9 c9 H locs 1 (0 + (tn 2 + 2)) (MQ below9 (va_Qv (fun (u9 : Unit) => True) (kB D g A (fun (u9 : Unit) => (([(sm, .inr (9, [.int ((fDay tr tn (fun j v => sHold tn (od j) v) (-1) c).1.1), .int ((fDay tr tn (fun j v => sHold tn (od j) v) (-1) c).1.2.1), .int ((fDay tr tn (fun j v => sHold tn (od j) v) (-1) c).1.2.2.1), .int ((fDay tr tn (fun j v => sHold tn (od j) v) (-1) c).2.1), .ref (ob 0), .ref (ob 1), .ref (ob 2), .ref (ob 3), .ref (ob 4)])), (ob 0, .inl (g 4, tn 0, .inr (.inr (.inr (.inr (bld (ad 0) (tn 0))))))), (ob 1, .inl (g 4, tn 1, .inr (.inr (.inr (.inr (bld (ad 1) (tn 1))))))), (ob 2, .inl (g 4, tn 2, .inr (.inr (.inr (.inr (bld (ad 2) (tn 2))))))), (ob 3, .inl (g 4, tn 3, .inr (.inr (.inr (.inr (bld (ad 3) (tn 3))))))), (ob 4, .inl (g 4, tn 4, .inr (.inr (.inr (.inr (bld (ad 4) (tn 4)))))))] : va_W) ++ simW (g 0) ad tn (simM tr od (fDay tr tn (fun j v => sHold tn (od j) v) (-1) c))))) A) ([.ref sm, .int (-1)] : List Value).toArray s9 1 8 A) (F0 m9 289 ls []) := by
                intro n9
                induction n9 with
                | zero => intro i c4 wv hm9; exact absurd hm9 (by omega)
                | succ n9 ih_289 =>
                  intro i c4 wv hm9 hi4 hc4 hw4 H locs hP hD hS ls hl
                  have hC4 : CIn tn c4 dd m := by rw [hc4]; exact rust_C hO hC3 i hi4
                  refine lv_iload_n hx hb dX11_pass_289 rfl (lv_at hl 2 rfl) ?_
                  refine lv_aload_n hx hb dX11_pass_290 rfl (lv_at hl 0 rfl) ?_
                  refine va_get (D := D) (ci := 9) (v := .ref (ob 2)) (C := RX11) (T := TX11) (N := 9) hx hb hts in_X11 hown hK hP 0 rfl rfl 6 (by decide) (hts _ w_1219) (fun _ h9 => h9) rfl dX11_pass_291 ?_
                  refine va_alen (v := nI (tn 2)) hx hb hK hP 3 4 rfl rfl rfl dX11_pass_294 ?_
                  refine lv_icmp_ge (tgt := 359) hx hb dX11_pass_295 (by decide) (fun c_295 => ?_) (fun c_295 => ?_)
                  · skip
                    have c_295 : (tn 2) ≤ i := (nI_leI (a := (tn 2)) (b := i) (by omega) (by omega)).mp c_295
                    have hie4 : i = tn 2 := by omega
                    rw [hie4] at hc4 hw4
                    refine lv_iconst (v := 0) hx hb dX11_pass_359 (by decide) ?_
                    refine lv_istore_n (lv' := [(3, .int 0), (0, .ref sm), (2, .ref q_1)]) hx hb dX11_pass_360 rfl hl (by decide) rfl (fun ls hl => ?_)
                    have loop_361 : ∀ (n9 : Nat) (i : Nat) (c5 : CS), n9 > tn 2 - i → (i ≤ tn 2) → (c5 = gnI tr (tn 2) c4 i) → ∀ (H : Heap) (locs : List Loc), va_P D CLS (([(sm, .inr (9, [.int c5.1.1, .int c5.1.2.1, .int c5.1.2.2.1, .int c5.2.1, .ref (ob 0), .ref (ob 1), .ref (ob 2), .ref (ob 3), .ref (ob 4)])), (ob 0, .inl (g 4, tn 0, .inr (.inr (.inr (.inr (bld (ad 0) (tn 0))))))), (ob 1, .inl (g 4, tn 1, .inr (.inr (.inr (.inr (bld (ad 1) (tn 1))))))), (ob 2, .inl (g 4, tn 2, .inr (.inr (.inr (.inr (bld (ad 2) (tn 2))))))), (ob 3, .inl (g 4, tn 3, .inr (.inr (.inr (.inr (bld (ad 3) (tn 3))))))), (ob 4, .inl (g 4, tn 4, .inr (.inr (.inr (.inr (bld (ad 4) (tn 4))))))), (q_1, .inl (g 0, tn 2 + 2, .inl wv))] : va_W) ++ simW (g 0) ad tn (simM tr od c5)) H → va_D A (([(sm, .inr (9, [.int c5.1.1, .int c5.1.2.1, .int c5.1.2.2.1, .int c5.2.1, .ref (ob 0), .ref (ob 1), .ref (ob 2), .ref (ob 3), .ref (ob 4)])), (ob 0, .inl (g 4, tn 0, .inr (.inr (.inr (.inr (bld (ad 0) (tn 0))))))), (ob 1, .inl (g 4, tn 1, .inr (.inr (.inr (.inr (bld (ad 1) (tn 1))))))), (ob 2, .inl (g 4, tn 2, .inr (.inr (.inr (.inr (bld (ad 2) (tn 2))))))), (ob 3, .inl (g 4, tn 3, .inr (.inr (.inr (.inr (bld (ad 3) (tn 3))))))), (ob 4, .inl (g 4, tn 4, .inr (.inr (.inr (.inr (bld (ad 4) (tn 4))))))), (q_1, .inl (g 0, tn 2 + 2, .inl wv))] : va_W) ++ simW (g 0) ad tn (simM tr od c5)) → va_S A s9.heap H locs → ∀ (ls : Array Slot), lv_has ls 7 [(0, .ref sm), (2, .ref q_1), (3, .int (nI i))] → W p9 l9 e9 ({ frames := 3, cells := 1, slots := 8, locals := 64 } : Room) s9 m9 ([.ref sm, .int (-1)] : List Value).toArray below9 meth9 c9 H locs 1 (0 + (tn 2 + 2)) (MQ below9 (va_Qv (fun (u9 : Unit) => True) (kB D g A (fun (u9 : Unit) => (([(sm, .inr (9, [.int ((fDay tr tn (fun j v => sHold tn (od j) v) (-1) c).1.1), .int ((fDay tr tn (fun j v => sHold tn (od j) v) (-1) c).1.2.1), .int ((fDay tr tn (fun j v => sHold tn (od j) v) (-1) c).1.2.2.1), .int ((fDay tr tn (fun j v => sHold tn (od j) v) (-1) c).2.1), .ref (ob 0), .ref (ob 1), .ref (ob 2), .ref (ob 3), .ref (ob 4)])), (ob 0, .inl (g 4, tn 0, .inr (.inr (.inr (.inr (bld (ad 0) (tn 0))))))), (ob 1, .inl (g 4, tn 1, .inr (.inr (.inr (.inr (bld (ad 1) (tn 1))))))), (ob 2, .inl (g 4, tn 2, .inr (.inr (.inr (.inr (bld (ad 2) (tn 2))))))), (ob 3, .inl (g 4, tn 3, .inr (.inr (.inr (.inr (bld (ad 3) (tn 3))))))), (ob 4, .inl (g 4, tn 4, .inr (.inr (.inr (.inr (bld (ad 4) (tn 4)))))))] : va_W) ++ simW (g 0) ad tn (simM tr od (fDay tr tn (fun j v => sHold tn (od j) v) (-1) c))))) A) ([.ref sm, .int (-1)] : List Value).toArray s9 1 8 A) (F0 m9 361 ls []) := by
                      intro n9
                      induction n9 with
                      | zero => intro i c5 hm9; exact absurd hm9 (by omega)
                      | succ n9 ih_361 =>
                        intro i c5 hm9 hi5 hc5 H locs hP hD hS ls hl
                        have hC5 : CIn tn c5 dd m := by rw [hc5]; exact gnaw_C hO hC4 i hi5
                        refine lv_iload_n hx hb dX11_pass_361 rfl (lv_at hl 2 rfl) ?_
                        refine lv_aload_n hx hb dX11_pass_362 rfl (lv_at hl 0 rfl) ?_
                        refine va_get (D := D) (ci := 9) (v := .ref (ob 2)) (C := RX11) (T := TX11) (N := 9) hx hb hts in_X11 hown hK hP 0 rfl rfl 6 (by decide) (hts _ w_1219) (fun _ h9 => h9) rfl dX11_pass_363 ?_
                        refine va_alen (v := nI (tn 2)) hx hb hK hP 3 4 rfl rfl rfl dX11_pass_366 ?_
                        refine lv_icmp_ge (tgt := 482) hx hb dX11_pass_367 (by decide) (fun c_367 => ?_) (fun c_367 => ?_)
                        · skip
                          have c_367 : (tn 2) ≤ i := (nI_leI (a := (tn 2)) (b := i) (by omega) (by omega)).mp c_367
                          have hie5 : i = tn 2 := by omega
                          rw [hie5] at hc5
                          refine lv_aload_n hx hb dX11_pass_482 rfl (lv_at hl 0 rfl) ?_
                          refine k_iP hA hP hD hS [(ob 0, .inl (g 4, tn 0, .inr (.inr (.inr (.inr (bld (ad 0) (tn 0))))))), (ob 1, .inl (g 4, tn 1, .inr (.inr (.inr (.inr (bld (ad 1) (tn 1))))))), (ob 2, .inl (g 4, tn 2, .inr (.inr (.inr (.inr (bld (ad 2) (tn 2))))))), (ob 4, .inl (g 4, tn 4, .inr (.inr (.inr (.inr (bld (ad 4) (tn 4))))))), (q_1, .inl (g 0, tn 2 + 2, .inl wv))] (va_runV (As := []) (rest := []) ⟨hx, hb, hml, hown, hts⟩ (c_X11_bishop l9 z D g sm ob ad tn tr od c5 dd m hO hC5 (Array.size H)) (cwV 0 hts gv_X11_67 rfl rfl rfl (by decide +kernel) ⟨Nat.le_of_ble_eq_true rfl, Nat.le_of_ble_eq_true rfl⟩) ⟨kBlind, va_recv hK hP (ci := 9) (q0 := 0) rfl rfl, kPre.pcP hK hZ hA hP hD hS [0, 4] rfl (by decide +kernel)⟩ rfl rfl hl.1 rfl (lv_room (Nat.le_of_ble_eq_true rfl)) dX11_pass_483 ⟨Nat.le_of_ble_eq_true rfl, (by show 0 + (tn 2 + 2) + 0 ≤ 8; omega)⟩) [0, 4] [1, 2, 3, 5, 6] rfl rfl rfl rfl (fun r_483 u_2 H locs hw_483 hP7 hD7 hS7 => ?_)
                          clear hP hD hS
                          have hP := hP7
                          have hD := hD7
                          have hS := hS7
                          clear hP7 hD7 hS7
                          obtain rfl := hw_483
                          replace hP : va_P D CLS (([(ob 0, .inl (g 4, tn 0, .inr (.inr (.inr (.inr (bld (ad 0) (tn 0))))))), (ob 1, .inl (g 4, tn 1, .inr (.inr (.inr (.inr (bld (ad 1) (tn 1))))))), (ob 2, .inl (g 4, tn 2, .inr (.inr (.inr (.inr (bld (ad 2) (tn 2))))))), (ob 4, .inl (g 4, tn 4, .inr (.inr (.inr (.inr (bld (ad 4) (tn 4))))))), (q_1, .inl (g 0, tn 2 + 2, .inl wv)), (sm, .inr (9, [.int c5.1.1, .int c5.1.2.1, .int c5.1.2.2.1, .int c5.2.1, .ref (ob 0), .ref (ob 1), .ref (ob 2), .ref (ob 3), .ref (ob 4)])), (ob 3, .inl (g 4, tn 3, .inr (.inr (.inr (.inr (bld (ad 3) (tn 3)))))))] : va_W) ++ simW (g 0) ad tn (simM tr od c5)) H := hP
                          replace hD : va_D A (([(ob 0, .inl (g 4, tn 0, .inr (.inr (.inr (.inr (bld (ad 0) (tn 0))))))), (ob 1, .inl (g 4, tn 1, .inr (.inr (.inr (.inr (bld (ad 1) (tn 1))))))), (ob 2, .inl (g 4, tn 2, .inr (.inr (.inr (.inr (bld (ad 2) (tn 2))))))), (ob 4, .inl (g 4, tn 4, .inr (.inr (.inr (.inr (bld (ad 4) (tn 4))))))), (q_1, .inl (g 0, tn 2 + 2, .inl wv)), (sm, .inr (9, [.int c5.1.1, .int c5.1.2.1, .int c5.1.2.2.1, .int c5.2.1, .ref (ob 0), .ref (ob 1), .ref (ob 2), .ref (ob 3), .ref (ob 4)])), (ob 3, .inl (g 4, tn 3, .inr (.inr (.inr (.inr (bld (ad 3) (tn 3)))))))] : va_W) ++ simW (g 0) ad tn (simM tr od c5)) := hD
                          refine lv_istore_n (lv' := [(3, .int (fBsp tr c5.1.1 (tn 3))), (0, .ref sm), (2, .ref q_1)]) hx hb dX11_pass_486 rfl hl (by decide) rfl (fun ls hl => ?_)
                          refine lv_iload_n hx hb dX11_pass_487 rfl (lv_at hl 0 rfl) ?_
                          refine lv_if_lt (tgt := 518) hx hb dX11_pass_488 (by decide) (fun c_488 => ?_) (fun c_488 => ?_)
                          · skip
                            have hDy : fDay tr tn (fun j v => sHold tn (od j) v) (-1) c = fNext c5 := by rw [dy_eq hc3 hc4 hc5, pl_no c_488 (by omega)]
                            refine lv_aload_n hx hb dX11_pass_518 rfl (lv_at hl 1 rfl) ?_
                            refine lv_dup hx hb dX11_pass_519 rfl ?_
                            refine va_get (D := D) (ci := 9) (v := .int c5.1.1) (C := RX11) (T := TX11) (N := 9) hx hb hts in_X11 hown hK hP 5 rfl rfl 0 (by decide) (hts _ w_1208) (fun _ h9 => h9) rfl dX11_pass_520 ?_
                            refine lv_iconst (v := 1) hx hb dX11_pass_523 (by decide) ?_
                            refine lv_iadd hx hb dX11_pass_524 ?_
                            refine va_put (D := D) (ci := 9) (v := .int (c5.1.1 + 1)) (ty := .int) (C := RX11) (T := TX11) (N := 9) hx hb hts in_X11 tyX11 tyX11_ok nmX11 hown hK hP hD hS 5 rfl rfl 0 (by decide) (hts _ w_1208) (fun _ h9 => h9) rfl (by decide +kernel) rfl rfl (Nat.le_of_ble_eq_true rfl) dX11_pass_525 (fun H locs hP7 hD7 hS7 => ?_)
                            clear hP hD hS
                            have hP := hP7
                            have hD := hD7
                            have hS := hS7
                            clear hP7 hD7 hS7
                            replace hP : va_P D CLS (([(ob 0, .inl (g 4, tn 0, .inr (.inr (.inr (.inr (bld (ad 0) (tn 0))))))), (ob 1, .inl (g 4, tn 1, .inr (.inr (.inr (.inr (bld (ad 1) (tn 1))))))), (ob 2, .inl (g 4, tn 2, .inr (.inr (.inr (.inr (bld (ad 2) (tn 2))))))), (ob 4, .inl (g 4, tn 4, .inr (.inr (.inr (.inr (bld (ad 4) (tn 4))))))), (q_1, .inl (g 0, tn 2 + 2, .inl wv)), (sm, .inr (9, [.int (c5.1.1 + 1), .int c5.1.2.1, .int c5.1.2.2.1, .int c5.2.1, .ref (ob 0), .ref (ob 1), .ref (ob 2), .ref (ob 3), .ref (ob 4)])), (ob 3, .inl (g 4, tn 3, .inr (.inr (.inr (.inr (bld (ad 3) (tn 3)))))))] : va_W) ++ simW (g 0) ad tn (simM tr od c5)) H := hP
                            replace hD : va_D A (([(ob 0, .inl (g 4, tn 0, .inr (.inr (.inr (.inr (bld (ad 0) (tn 0))))))), (ob 1, .inl (g 4, tn 1, .inr (.inr (.inr (.inr (bld (ad 1) (tn 1))))))), (ob 2, .inl (g 4, tn 2, .inr (.inr (.inr (.inr (bld (ad 2) (tn 2))))))), (ob 4, .inl (g 4, tn 4, .inr (.inr (.inr (.inr (bld (ad 4) (tn 4))))))), (q_1, .inl (g 0, tn 2 + 2, .inl wv)), (sm, .inr (9, [.int (c5.1.1 + 1), .int c5.1.2.1, .int c5.1.2.2.1, .int c5.2.1, .ref (ob 0), .ref (ob 1), .ref (ob 2), .ref (ob 3), .ref (ob 4)])), (ob 3, .inl (g 4, tn 3, .inr (.inr (.inr (.inr (bld (ad 3) (tn 3)))))))] : va_W) ++ simW (g 0) ad tn (simM tr od c5)) := hD
                            have he_3 : ((fDay tr tn (fun j v => sHold tn (od j) v) (-1) c).1.1) = (c5.1.1 + 1) := by rw [hDy]; rfl
                            have he_4 : ((fDay tr tn (fun j v => sHold tn (od j) v) (-1) c).1.2.1) = c5.1.2.1 := by rw [hDy]; rfl
                            have he_5 : ((fDay tr tn (fun j v => sHold tn (od j) v) (-1) c).1.2.2.1) = c5.1.2.2.1 := by rw [hDy]; rfl
                            have he_6 : ((fDay tr tn (fun j v => sHold tn (od j) v) (-1) c).2.1) = c5.2.1 := by rw [hDy]; rfl
                            have heG : simW (g 0) ad tn (simM tr od (fDay tr tn (fun j v => sHold tn (od j) v) (-1) c)) = simW (g 0) ad tn (simM tr od c5) := by rw [hDy]; rfl
                            have hP9 : va_P D CLS (([(sm, .inr (9, [.int ((fDay tr tn (fun j v => sHold tn (od j) v) (-1) c).1.1), .int ((fDay tr tn (fun j v => sHold tn (od j) v) (-1) c).1.2.1), .int ((fDay tr tn (fun j v => sHold tn (od j) v) (-1) c).1.2.2.1), .int ((fDay tr tn (fun j v => sHold tn (od j) v) (-1) c).2.1), .ref (ob 0), .ref (ob 1), .ref (ob 2), .ref (ob 3), .ref (ob 4)])), (ob 0, .inl (g 4, tn 0, .inr (.inr (.inr (.inr (bld (ad 0) (tn 0))))))), (ob 1, .inl (g 4, tn 1, .inr (.inr (.inr (.inr (bld (ad 1) (tn 1))))))), (ob 2, .inl (g 4, tn 2, .inr (.inr (.inr (.inr (bld (ad 2) (tn 2))))))), (ob 3, .inl (g 4, tn 3, .inr (.inr (.inr (.inr (bld (ad 3) (tn 3))))))), (ob 4, .inl (g 4, tn 4, .inr (.inr (.inr (.inr (bld (ad 4) (tn 4)))))))] : va_W) ++ simW (g 0) ad tn (simM tr od (fDay tr tn (fun j v => sHold tn (od j) v) (-1) c))) H := by rw [he_3, he_4, he_5, he_6, heG]; exact va_P.part hP [5, 0, 1, 2, 6, 3] rfl
                            have hD9 : va_D A (([(sm, .inr (9, [.int ((fDay tr tn (fun j v => sHold tn (od j) v) (-1) c).1.1), .int ((fDay tr tn (fun j v => sHold tn (od j) v) (-1) c).1.2.1), .int ((fDay tr tn (fun j v => sHold tn (od j) v) (-1) c).1.2.2.1), .int ((fDay tr tn (fun j v => sHold tn (od j) v) (-1) c).2.1), .ref (ob 0), .ref (ob 1), .ref (ob 2), .ref (ob 3), .ref (ob 4)])), (ob 0, .inl (g 4, tn 0, .inr (.inr (.inr (.inr (bld (ad 0) (tn 0))))))), (ob 1, .inl (g 4, tn 1, .inr (.inr (.inr (.inr (bld (ad 1) (tn 1))))))), (ob 2, .inl (g 4, tn 2, .inr (.inr (.inr (.inr (bld (ad 2) (tn 2))))))), (ob 3, .inl (g 4, tn 3, .inr (.inr (.inr (.inr (bld (ad 3) (tn 3))))))), (ob 4, .inl (g 4, tn 4, .inr (.inr (.inr (.inr (bld (ad 4) (tn 4)))))))] : va_W) ++ simW (g 0) ad tn (simM tr od (fDay tr tn (fun j v => sHold tn (od j) v) (-1) c))) := by rw [he_3, he_4, he_5, he_6, heG]; exact hD.part [5, 0, 1, 2, 6, 3] (by decide +kernel) rfl
                            refine W.widen (k := 1) (n := 8) (by omega) (by omega) ?_
                            exact W.vret hx hb hr (fun t9 ht9 hW9 => ⟨⟨(), rfl, trivial, by rw [ht9]; exact hP9, va_K.moved hW9.alike hK, hD9⟩, hS.F ht9⟩) hS.2.2 dX11_pass_528
                          · skip
                            obtain ⟨bq, hB2, hB⟩ := (BI_x (fBsp_BI (tr := tr) (day := c5.1.1) (n := tn 3) (by omega))).resolve_left (fun z => c_488 (by rw [z]; decide))
                            rw [hB] at hl
                            refine lv_aload_n hx hb dX11_pass_491 rfl (lv_at hl 1 rfl) ?_
                            refine lv_iload_n hx hb dX11_pass_492 rfl (lv_at hl 0 rfl) ?_
                            refine k_iP hA hP hD hS [(ob 1, .inl (g 4, tn 1, .inr (.inr (.inr (.inr (bld (ad 1) (tn 1))))))), (ob 4, .inl (g 4, tn 4, .inr (.inr (.inr (.inr (bld (ad 4) (tn 4))))))), (q_1, .inl (g 0, tn 2 + 2, .inl wv))] (va_runV (As := [.int (nI bq)]) (rest := []) ⟨hx, hb, hml, hown, hts⟩ (c_X11_pleasure l9 z D g sm ob ad tn tr od c5 dd m bq hO hC5 hB2 (Array.size H)) (cwV 1 hts gv_X11_71 rfl rfl rfl (by decide +kernel) ⟨Nat.le_of_ble_eq_true rfl, Nat.le_of_ble_eq_true rfl⟩) ⟨kBlind, va_recv hK hP (ci := 9) (q0 := 5) rfl rfl, kPre.pcP hK hZ hA hP hD hS [5, 0, 2, 6] rfl (by decide +kernel)⟩ rfl rfl hl.1 rfl (lv_room (Nat.le_of_ble_eq_true rfl)) dX11_pass_493 ⟨Nat.le_of_ble_eq_true rfl, (by show 0 + (tn 2 + 2) + 0 + 0 ≤ 8; omega)⟩) [5, 0, 2, 6] [1, 3, 4] rfl rfl rfl rfl (fun r_493 u_7 H locs hw_493 hP7 hD7 hS7 => ?_)
                            clear hP hD hS
                            have hP := hP7
                            have hD := hD7
                            have hS := hS7
                            clear hP7 hD7 hS7
                            obtain rfl := hw_493
                            replace hP : va_P D CLS (([(ob 1, .inl (g 4, tn 1, .inr (.inr (.inr (.inr (bld (ad 1) (tn 1))))))), (ob 4, .inl (g 4, tn 4, .inr (.inr (.inr (.inr (bld (ad 4) (tn 4))))))), (q_1, .inl (g 0, tn 2 + 2, .inl wv)), (sm, .inr (9, [.int c5.1.1, .int c5.1.2.1, .int c5.1.2.2.1, .int c5.2.1, .ref (ob 0), .ref (ob 1), .ref (ob 2), .ref (ob 3), .ref (ob 4)])), (ob 0, .inl (g 4, tn 0, .inr (.inr (.inr (.inr (bld (ad 0) (tn 0))))))), (ob 2, .inl (g 4, tn 2, .inr (.inr (.inr (.inr (bld (ad 2) (tn 2))))))), (ob 3, .inl (g 4, tn 3, .inr (.inr (.inr (.inr (bld (ad 3) (tn 3)))))))] : va_W) ++ simW (g 0) ad tn (simM tr od c5)) H := hP
                            replace hD : va_D A (([(ob 1, .inl (g 4, tn 1, .inr (.inr (.inr (.inr (bld (ad 1) (tn 1))))))), (ob 4, .inl (g 4, tn 4, .inr (.inr (.inr (.inr (bld (ad 4) (tn 4))))))), (q_1, .inl (g 0, tn 2 + 2, .inl wv)), (sm, .inr (9, [.int c5.1.1, .int c5.1.2.1, .int c5.1.2.2.1, .int c5.2.1, .ref (ob 0), .ref (ob 1), .ref (ob 2), .ref (ob 3), .ref (ob 4)])), (ob 0, .inl (g 4, tn 0, .inr (.inr (.inr (.inr (bld (ad 0) (tn 0))))))), (ob 2, .inl (g 4, tn 2, .inr (.inr (.inr (.inr (bld (ad 2) (tn 2))))))), (ob 3, .inl (g 4, tn 3, .inr (.inr (.inr (.inr (bld (ad 3) (tn 3)))))))] : va_W) ++ simW (g 0) ad tn (simM tr od c5)) := hD
                            refine lv_bipush (v := 9) hx hb dX11_pass_496 (by decide) ?_
                            refine lv_icmp_le (tgt := 518) hx hb dX11_pass_498 (by decide) (fun c_498 => ?_) (fun c_498 => ?_)
                            · skip
                              have hDy : fDay tr tn (fun j v => sHold tn (od j) v) (-1) c = fNext c5 := by rw [dy_eq hc3 hc4 hc5, pl_lo hB (by omega) c_498]
                              refine lv_aload_n hx hb dX11_pass_518 rfl (lv_at hl 1 rfl) ?_
                              refine lv_dup hx hb dX11_pass_519 rfl ?_
                              refine va_get (D := D) (ci := 9) (v := .int c5.1.1) (C := RX11) (T := TX11) (N := 9) hx hb hts in_X11 hown hK hP 3 rfl rfl 0 (by decide) (hts _ w_1208) (fun _ h9 => h9) rfl dX11_pass_520 ?_
                              refine lv_iconst (v := 1) hx hb dX11_pass_523 (by decide) ?_
                              refine lv_iadd hx hb dX11_pass_524 ?_
                              refine va_put (D := D) (ci := 9) (v := .int (c5.1.1 + 1)) (ty := .int) (C := RX11) (T := TX11) (N := 9) hx hb hts in_X11 tyX11 tyX11_ok nmX11 hown hK hP hD hS 3 rfl rfl 0 (by decide) (hts _ w_1208) (fun _ h9 => h9) rfl (by decide +kernel) rfl rfl (Nat.le_of_ble_eq_true rfl) dX11_pass_525 (fun H locs hP7 hD7 hS7 => ?_)
                              clear hP hD hS
                              have hP := hP7
                              have hD := hD7
                              have hS := hS7
                              clear hP7 hD7 hS7
                              replace hP : va_P D CLS (([(ob 1, .inl (g 4, tn 1, .inr (.inr (.inr (.inr (bld (ad 1) (tn 1))))))), (ob 4, .inl (g 4, tn 4, .inr (.inr (.inr (.inr (bld (ad 4) (tn 4))))))), (q_1, .inl (g 0, tn 2 + 2, .inl wv)), (sm, .inr (9, [.int (c5.1.1 + 1), .int c5.1.2.1, .int c5.1.2.2.1, .int c5.2.1, .ref (ob 0), .ref (ob 1), .ref (ob 2), .ref (ob 3), .ref (ob 4)])), (ob 0, .inl (g 4, tn 0, .inr (.inr (.inr (.inr (bld (ad 0) (tn 0))))))), (ob 2, .inl (g 4, tn 2, .inr (.inr (.inr (.inr (bld (ad 2) (tn 2))))))), (ob 3, .inl (g 4, tn 3, .inr (.inr (.inr (.inr (bld (ad 3) (tn 3)))))))] : va_W) ++ simW (g 0) ad tn (simM tr od c5)) H := hP
                              replace hD : va_D A (([(ob 1, .inl (g 4, tn 1, .inr (.inr (.inr (.inr (bld (ad 1) (tn 1))))))), (ob 4, .inl (g 4, tn 4, .inr (.inr (.inr (.inr (bld (ad 4) (tn 4))))))), (q_1, .inl (g 0, tn 2 + 2, .inl wv)), (sm, .inr (9, [.int (c5.1.1 + 1), .int c5.1.2.1, .int c5.1.2.2.1, .int c5.2.1, .ref (ob 0), .ref (ob 1), .ref (ob 2), .ref (ob 3), .ref (ob 4)])), (ob 0, .inl (g 4, tn 0, .inr (.inr (.inr (.inr (bld (ad 0) (tn 0))))))), (ob 2, .inl (g 4, tn 2, .inr (.inr (.inr (.inr (bld (ad 2) (tn 2))))))), (ob 3, .inl (g 4, tn 3, .inr (.inr (.inr (.inr (bld (ad 3) (tn 3)))))))] : va_W) ++ simW (g 0) ad tn (simM tr od c5)) := hD
                              have he_8 : ((fDay tr tn (fun j v => sHold tn (od j) v) (-1) c).1.1) = (c5.1.1 + 1) := by rw [hDy]; rfl
                              have he_9 : ((fDay tr tn (fun j v => sHold tn (od j) v) (-1) c).1.2.1) = c5.1.2.1 := by rw [hDy]; rfl
                              have he_10 : ((fDay tr tn (fun j v => sHold tn (od j) v) (-1) c).1.2.2.1) = c5.1.2.2.1 := by rw [hDy]; rfl
                              have he_11 : ((fDay tr tn (fun j v => sHold tn (od j) v) (-1) c).2.1) = c5.2.1 := by rw [hDy]; rfl
                              have heG : simW (g 0) ad tn (simM tr od (fDay tr tn (fun j v => sHold tn (od j) v) (-1) c)) = simW (g 0) ad tn (simM tr od c5) := by rw [hDy]; rfl
                              have hP9 : va_P D CLS (([(sm, .inr (9, [.int ((fDay tr tn (fun j v => sHold tn (od j) v) (-1) c).1.1), .int ((fDay tr tn (fun j v => sHold tn (od j) v) (-1) c).1.2.1), .int ((fDay tr tn (fun j v => sHold tn (od j) v) (-1) c).1.2.2.1), .int ((fDay tr tn (fun j v => sHold tn (od j) v) (-1) c).2.1), .ref (ob 0), .ref (ob 1), .ref (ob 2), .ref (ob 3), .ref (ob 4)])), (ob 0, .inl (g 4, tn 0, .inr (.inr (.inr (.inr (bld (ad 0) (tn 0))))))), (ob 1, .inl (g 4, tn 1, .inr (.inr (.inr (.inr (bld (ad 1) (tn 1))))))), (ob 2, .inl (g 4, tn 2, .inr (.inr (.inr (.inr (bld (ad 2) (tn 2))))))), (ob 3, .inl (g 4, tn 3, .inr (.inr (.inr (.inr (bld (ad 3) (tn 3))))))), (ob 4, .inl (g 4, tn 4, .inr (.inr (.inr (.inr (bld (ad 4) (tn 4)))))))] : va_W) ++ simW (g 0) ad tn (simM tr od (fDay tr tn (fun j v => sHold tn (od j) v) (-1) c))) H := by rw [he_8, he_9, he_10, he_11, heG]; exact va_P.part hP [3, 4, 0, 5, 6, 1] rfl
                              have hD9 : va_D A (([(sm, .inr (9, [.int ((fDay tr tn (fun j v => sHold tn (od j) v) (-1) c).1.1), .int ((fDay tr tn (fun j v => sHold tn (od j) v) (-1) c).1.2.1), .int ((fDay tr tn (fun j v => sHold tn (od j) v) (-1) c).1.2.2.1), .int ((fDay tr tn (fun j v => sHold tn (od j) v) (-1) c).2.1), .ref (ob 0), .ref (ob 1), .ref (ob 2), .ref (ob 3), .ref (ob 4)])), (ob 0, .inl (g 4, tn 0, .inr (.inr (.inr (.inr (bld (ad 0) (tn 0))))))), (ob 1, .inl (g 4, tn 1, .inr (.inr (.inr (.inr (bld (ad 1) (tn 1))))))), (ob 2, .inl (g 4, tn 2, .inr (.inr (.inr (.inr (bld (ad 2) (tn 2))))))), (ob 3, .inl (g 4, tn 3, .inr (.inr (.inr (.inr (bld (ad 3) (tn 3))))))), (ob 4, .inl (g 4, tn 4, .inr (.inr (.inr (.inr (bld (ad 4) (tn 4)))))))] : va_W) ++ simW (g 0) ad tn (simM tr od (fDay tr tn (fun j v => sHold tn (od j) v) (-1) c))) := by rw [he_8, he_9, he_10, he_11, heG]; exact hD.part [3, 4, 0, 5, 6, 1] (by decide +kernel) rfl
                              refine W.widen (k := 1) (n := 8) (by omega) (by omega) ?_
                              exact W.vret hx hb hr (fun t9 ht9 hW9 => ⟨⟨(), rfl, trivial, by rw [ht9]; exact hP9, va_K.moved hW9.alike hK, hD9⟩, hS.F ht9⟩) hS.2.2 dX11_pass_528
                            · skip
                              have hDy := dy_eq hc3 hc4 hc5
                              rw [pl_hi hB (by omega) c_498] at hDy
                              refine lv_aload_n hx hb dX11_pass_501 rfl (lv_at hl 1 rfl) ?_
                              refine lv_dup hx hb dX11_pass_502 rfl ?_
                              refine va_get (D := D) (ci := 9) (v := .int c5.1.2.2.1) (C := RX11) (T := TX11) (N := 9) hx hb hts in_X11 hown hK hP 3 rfl rfl 2 (by decide) (hts _ w_1211) (fun _ h9 => h9) rfl dX11_pass_503 ?_
                              refine lv_aload_n hx hb dX11_pass_506 rfl (lv_at hl 1 rfl) ?_
                              refine lv_iload_n hx hb dX11_pass_507 rfl (lv_at hl 0 rfl) ?_
                              refine k_iP hA hP hD hS [(ob 1, .inl (g 4, tn 1, .inr (.inr (.inr (.inr (bld (ad 1) (tn 1))))))), (ob 4, .inl (g 4, tn 4, .inr (.inr (.inr (.inr (bld (ad 4) (tn 4))))))), (q_1, .inl (g 0, tn 2 + 2, .inl wv))] (va_runV (As := [.int (nI bq)]) (rest := [.int c5.1.2.2.1, .ref sm]) ⟨hx, hb, hml, hown, hts⟩ (c_X11_pleasure l9 z D g sm ob ad tn tr od c5 dd m bq hO hC5 hB2 (Array.size H)) (cwV 1 hts gv_X11_71 rfl rfl rfl (by decide +kernel) ⟨Nat.le_of_ble_eq_true rfl, Nat.le_of_ble_eq_true rfl⟩) ⟨kBlind, va_recv hK hP (ci := 9) (q0 := 3) rfl rfl, kPre.pcP hK hZ hA hP hD hS [3, 4, 5, 6] rfl (by decide +kernel)⟩ rfl rfl hl.1 rfl (lv_room (Nat.le_of_ble_eq_true rfl)) dX11_pass_508 ⟨Nat.le_of_ble_eq_true rfl, (by show 0 + (tn 2 + 2) + 0 + 0 + 0 ≤ 8; omega)⟩) [3, 4, 5, 6] [0, 1, 2] rfl rfl rfl rfl (fun r_508 u_12 H locs hw_508 hP7 hD7 hS7 => ?_)
                              clear hP hD hS
                              have hP := hP7
                              have hD := hD7
                              have hS := hS7
                              clear hP7 hD7 hS7
                              obtain rfl := hw_508
                              replace hP : va_P D CLS (([(ob 1, .inl (g 4, tn 1, .inr (.inr (.inr (.inr (bld (ad 1) (tn 1))))))), (ob 4, .inl (g 4, tn 4, .inr (.inr (.inr (.inr (bld (ad 4) (tn 4))))))), (q_1, .inl (g 0, tn 2 + 2, .inl wv)), (sm, .inr (9, [.int c5.1.1, .int c5.1.2.1, .int c5.1.2.2.1, .int c5.2.1, .ref (ob 0), .ref (ob 1), .ref (ob 2), .ref (ob 3), .ref (ob 4)])), (ob 0, .inl (g 4, tn 0, .inr (.inr (.inr (.inr (bld (ad 0) (tn 0))))))), (ob 2, .inl (g 4, tn 2, .inr (.inr (.inr (.inr (bld (ad 2) (tn 2))))))), (ob 3, .inl (g 4, tn 3, .inr (.inr (.inr (.inr (bld (ad 3) (tn 3)))))))] : va_W) ++ simW (g 0) ad tn (simM tr od c5)) H := hP
                              replace hD : va_D A (([(ob 1, .inl (g 4, tn 1, .inr (.inr (.inr (.inr (bld (ad 1) (tn 1))))))), (ob 4, .inl (g 4, tn 4, .inr (.inr (.inr (.inr (bld (ad 4) (tn 4))))))), (q_1, .inl (g 0, tn 2 + 2, .inl wv)), (sm, .inr (9, [.int c5.1.1, .int c5.1.2.1, .int c5.1.2.2.1, .int c5.2.1, .ref (ob 0), .ref (ob 1), .ref (ob 2), .ref (ob 3), .ref (ob 4)])), (ob 0, .inl (g 4, tn 0, .inr (.inr (.inr (.inr (bld (ad 0) (tn 0))))))), (ob 2, .inl (g 4, tn 2, .inr (.inr (.inr (.inr (bld (ad 2) (tn 2))))))), (ob 3, .inl (g 4, tn 3, .inr (.inr (.inr (.inr (bld (ad 3) (tn 3)))))))] : va_W) ++ simW (g 0) ad tn (simM tr od c5)) := hD
                              refine lv_bipush (v := 10) hx hb dX11_pass_511 (by decide) ?_
                              refine lv_idiv hx hb dX11_pass_513 (by decide) ?_
                              refine lv_iadd hx hb dX11_pass_514 ?_
                              refine va_put (D := D) (ci := 9) (v := .int (c5.1.2.2.1 + ((fPleas tr c5.1.2.2.2.1 c5.1.2.2.2.2.1 c5.1.2.2.2.2.2.2 (nI bq) (tn 2)) / 10))) (ty := .int) (C := RX11) (T := TX11) (N := 9) hx hb hts in_X11 tyX11 tyX11_ok nmX11 hown hK hP hD hS 3 rfl rfl 2 (by decide) (hts _ w_1211) (fun _ h9 => h9) rfl (by decide +kernel) rfl rfl (Nat.le_of_ble_eq_true rfl) dX11_pass_515 (fun H locs hP7 hD7 hS7 => ?_)
                              clear hP hD hS
                              have hP := hP7
                              have hD := hD7
                              have hS := hS7
                              clear hP7 hD7 hS7
                              replace hP : va_P D CLS (([(ob 1, .inl (g 4, tn 1, .inr (.inr (.inr (.inr (bld (ad 1) (tn 1))))))), (ob 4, .inl (g 4, tn 4, .inr (.inr (.inr (.inr (bld (ad 4) (tn 4))))))), (q_1, .inl (g 0, tn 2 + 2, .inl wv)), (sm, .inr (9, [.int c5.1.1, .int c5.1.2.1, .int (c5.1.2.2.1 + ((fPleas tr c5.1.2.2.2.1 c5.1.2.2.2.2.1 c5.1.2.2.2.2.2.2 (nI bq) (tn 2)) / 10)), .int c5.2.1, .ref (ob 0), .ref (ob 1), .ref (ob 2), .ref (ob 3), .ref (ob 4)])), (ob 0, .inl (g 4, tn 0, .inr (.inr (.inr (.inr (bld (ad 0) (tn 0))))))), (ob 2, .inl (g 4, tn 2, .inr (.inr (.inr (.inr (bld (ad 2) (tn 2))))))), (ob 3, .inl (g 4, tn 3, .inr (.inr (.inr (.inr (bld (ad 3) (tn 3)))))))] : va_W) ++ simW (g 0) ad tn (simM tr od c5)) H := hP
                              replace hD : va_D A (([(ob 1, .inl (g 4, tn 1, .inr (.inr (.inr (.inr (bld (ad 1) (tn 1))))))), (ob 4, .inl (g 4, tn 4, .inr (.inr (.inr (.inr (bld (ad 4) (tn 4))))))), (q_1, .inl (g 0, tn 2 + 2, .inl wv)), (sm, .inr (9, [.int c5.1.1, .int c5.1.2.1, .int (c5.1.2.2.1 + ((fPleas tr c5.1.2.2.2.1 c5.1.2.2.2.2.1 c5.1.2.2.2.2.2.2 (nI bq) (tn 2)) / 10)), .int c5.2.1, .ref (ob 0), .ref (ob 1), .ref (ob 2), .ref (ob 3), .ref (ob 4)])), (ob 0, .inl (g 4, tn 0, .inr (.inr (.inr (.inr (bld (ad 0) (tn 0))))))), (ob 2, .inl (g 4, tn 2, .inr (.inr (.inr (.inr (bld (ad 2) (tn 2))))))), (ob 3, .inl (g 4, tn 3, .inr (.inr (.inr (.inr (bld (ad 3) (tn 3)))))))] : va_W) ++ simW (g 0) ad tn (simM tr od c5)) := hD
                              refine lv_aload_n hx hb dX11_pass_518 rfl (lv_at hl 1 rfl) ?_
                              refine lv_dup hx hb dX11_pass_519 rfl ?_
                              refine va_get (D := D) (ci := 9) (v := .int c5.1.1) (C := RX11) (T := TX11) (N := 9) hx hb hts in_X11 hown hK hP 3 rfl rfl 0 (by decide) (hts _ w_1208) (fun _ h9 => h9) rfl dX11_pass_520 ?_
                              refine lv_iconst (v := 1) hx hb dX11_pass_523 (by decide) ?_
                              refine lv_iadd hx hb dX11_pass_524 ?_
                              refine va_put (D := D) (ci := 9) (v := .int (c5.1.1 + 1)) (ty := .int) (C := RX11) (T := TX11) (N := 9) hx hb hts in_X11 tyX11 tyX11_ok nmX11 hown hK hP hD hS 3 rfl rfl 0 (by decide) (hts _ w_1208) (fun _ h9 => h9) rfl (by decide +kernel) rfl rfl (Nat.le_of_ble_eq_true rfl) dX11_pass_525 (fun H locs hP7 hD7 hS7 => ?_)
                              clear hP hD hS
                              have hP := hP7
                              have hD := hD7
                              have hS := hS7
                              clear hP7 hD7 hS7
                              replace hP : va_P D CLS (([(ob 1, .inl (g 4, tn 1, .inr (.inr (.inr (.inr (bld (ad 1) (tn 1))))))), (ob 4, .inl (g 4, tn 4, .inr (.inr (.inr (.inr (bld (ad 4) (tn 4))))))), (q_1, .inl (g 0, tn 2 + 2, .inl wv)), (sm, .inr (9, [.int (c5.1.1 + 1), .int c5.1.2.1, .int (c5.1.2.2.1 + ((fPleas tr c5.1.2.2.2.1 c5.1.2.2.2.2.1 c5.1.2.2.2.2.2.2 (nI bq) (tn 2)) / 10)), .int c5.2.1, .ref (ob 0), .ref (ob 1), .ref (ob 2), .ref (ob 3), .ref (ob 4)])), (ob 0, .inl (g 4, tn 0, .inr (.inr (.inr (.inr (bld (ad 0) (tn 0))))))), (ob 2, .inl (g 4, tn 2, .inr (.inr (.inr (.inr (bld (ad 2) (tn 2))))))), (ob 3, .inl (g 4, tn 3, .inr (.inr (.inr (.inr (bld (ad 3) (tn 3)))))))] : va_W) ++ simW (g 0) ad tn (simM tr od c5)) H := hP
                              replace hD : va_D A (([(ob 1, .inl (g 4, tn 1, .inr (.inr (.inr (.inr (bld (ad 1) (tn 1))))))), (ob 4, .inl (g 4, tn 4, .inr (.inr (.inr (.inr (bld (ad 4) (tn 4))))))), (q_1, .inl (g 0, tn 2 + 2, .inl wv)), (sm, .inr (9, [.int (c5.1.1 + 1), .int c5.1.2.1, .int (c5.1.2.2.1 + ((fPleas tr c5.1.2.2.2.1 c5.1.2.2.2.2.1 c5.1.2.2.2.2.2.2 (nI bq) (tn 2)) / 10)), .int c5.2.1, .ref (ob 0), .ref (ob 1), .ref (ob 2), .ref (ob 3), .ref (ob 4)])), (ob 0, .inl (g 4, tn 0, .inr (.inr (.inr (.inr (bld (ad 0) (tn 0))))))), (ob 2, .inl (g 4, tn 2, .inr (.inr (.inr (.inr (bld (ad 2) (tn 2))))))), (ob 3, .inl (g 4, tn 3, .inr (.inr (.inr (.inr (bld (ad 3) (tn 3)))))))] : va_W) ++ simW (g 0) ad tn (simM tr od c5)) := hD
                              have he_13 : ((fDay tr tn (fun j v => sHold tn (od j) v) (-1) c).1.1) = (c5.1.1 + 1) := by rw [hDy]; rfl
                              have he_14 : ((fDay tr tn (fun j v => sHold tn (od j) v) (-1) c).1.2.1) = c5.1.2.1 := by rw [hDy]; rfl
                              have he_15 : ((fDay tr tn (fun j v => sHold tn (od j) v) (-1) c).1.2.2.1) = (c5.1.2.2.1 + ((fPleas tr c5.1.2.2.2.1 c5.1.2.2.2.2.1 c5.1.2.2.2.2.2.2 (nI bq) (tn 2)) / 10)) := by rw [hDy]; rfl
                              have he_16 : ((fDay tr tn (fun j v => sHold tn (od j) v) (-1) c).2.1) = c5.2.1 := by rw [hDy]; rfl
                              have heG : simW (g 0) ad tn (simM tr od (fDay tr tn (fun j v => sHold tn (od j) v) (-1) c)) = simW (g 0) ad tn (simM tr od c5) := by rw [hDy]; rfl
                              have hP9 : va_P D CLS (([(sm, .inr (9, [.int ((fDay tr tn (fun j v => sHold tn (od j) v) (-1) c).1.1), .int ((fDay tr tn (fun j v => sHold tn (od j) v) (-1) c).1.2.1), .int ((fDay tr tn (fun j v => sHold tn (od j) v) (-1) c).1.2.2.1), .int ((fDay tr tn (fun j v => sHold tn (od j) v) (-1) c).2.1), .ref (ob 0), .ref (ob 1), .ref (ob 2), .ref (ob 3), .ref (ob 4)])), (ob 0, .inl (g 4, tn 0, .inr (.inr (.inr (.inr (bld (ad 0) (tn 0))))))), (ob 1, .inl (g 4, tn 1, .inr (.inr (.inr (.inr (bld (ad 1) (tn 1))))))), (ob 2, .inl (g 4, tn 2, .inr (.inr (.inr (.inr (bld (ad 2) (tn 2))))))), (ob 3, .inl (g 4, tn 3, .inr (.inr (.inr (.inr (bld (ad 3) (tn 3))))))), (ob 4, .inl (g 4, tn 4, .inr (.inr (.inr (.inr (bld (ad 4) (tn 4)))))))] : va_W) ++ simW (g 0) ad tn (simM tr od (fDay tr tn (fun j v => sHold tn (od j) v) (-1) c))) H := by rw [he_13, he_14, he_15, he_16, heG]; exact va_P.part hP [3, 4, 0, 5, 6, 1] rfl
                              have hD9 : va_D A (([(sm, .inr (9, [.int ((fDay tr tn (fun j v => sHold tn (od j) v) (-1) c).1.1), .int ((fDay tr tn (fun j v => sHold tn (od j) v) (-1) c).1.2.1), .int ((fDay tr tn (fun j v => sHold tn (od j) v) (-1) c).1.2.2.1), .int ((fDay tr tn (fun j v => sHold tn (od j) v) (-1) c).2.1), .ref (ob 0), .ref (ob 1), .ref (ob 2), .ref (ob 3), .ref (ob 4)])), (ob 0, .inl (g 4, tn 0, .inr (.inr (.inr (.inr (bld (ad 0) (tn 0))))))), (ob 1, .inl (g 4, tn 1, .inr (.inr (.inr (.inr (bld (ad 1) (tn 1))))))), (ob 2, .inl (g 4, tn 2, .inr (.inr (.inr (.inr (bld (ad 2) (tn 2))))))), (ob 3, .inl (g 4, tn 3, .inr (.inr (.inr (.inr (bld (ad 3) (tn 3))))))), (ob 4, .inl (g 4, tn 4, .inr (.inr (.inr (.inr (bld (ad 4) (tn 4)))))))] : va_W) ++ simW (g 0) ad tn (simM tr od (fDay tr tn (fun j v => sHold tn (od j) v) (-1) c))) := by rw [he_13, he_14, he_15, he_16, heG]; exact hD.part [3, 4, 0, 5, 6, 1] (by decide +kernel) rfl
                              refine W.widen (k := 1) (n := 8) (by omega) (by omega) ?_
                              exact W.vret hx hb hr (fun t9 ht9 hW9 => ⟨⟨(), rfl, trivial, by rw [ht9]; exact hP9, va_K.moved hW9.alike hK, hD9⟩, hS.F ht9⟩) hS.2.2 dX11_pass_528
                        · skip
                          have c_367 : ¬ (tn 2) ≤ i := fun h => c_367 ((nI_leI (a := (tn 2)) (b := i) (by omega) (by omega)).mpr h)
                          have hcd : c5.1.2.1 = c4.1.2.1 := by rw [hc5]; rfl
                          have hcb : c5.1.2.2.2.1 = c4.1.2.2.2.1 := by rw [hc5]; rfl
                          have hfw : c4.1.2.2.2.2.2.1 = c3.1.2.2.2.2.2.1 := by rw [hc4]; exact fRsI_w.1
                          have hw5 : wv = fWv c4.1.2.2.2.2.2.1 (tn 2) := by rw [hfw]; exact hw4
                          have hwi : wv (i + 1) = c4.1.2.2.2.2.2.1 i := by rw [hw5]; exact fWv_at (by omega)
                          obtain ⟨_, q0, _, _, hq0, hq1, _⟩ := hC5.2.2.2.2.2 i (by omega)
                          refine lv_aload_n hx hb dX11_pass_370 rfl (lv_at hl 0 rfl) ?_
                          refine va_get (D := D) (ci := 9) (v := .ref (ob 2)) (C := RX11) (T := TX11) (N := 9) hx hb hts in_X11 hown hK hP 0 rfl rfl 6 (by decide) (hts _ w_1219) (fun _ h9 => h9) rfl dX11_pass_371 ?_
                          refine lv_iload_n hx hb dX11_pass_374 rfl (lv_at hl 2 rfl) ?_
                          refine k_aldB (i := i) hx hb hK hP 3 rfl (by omega) (Nat.le_refl _) (by omega) dX11_pass_375 ?_
                          refine lv_astore (lv' := [(4, .ref (ad 2 i)), (0, .ref sm), (2, .ref q_1), (3, .int (nI i))]) hx hb dX11_pass_376 hl (by decide) rfl (fun ls hl => ?_)
                          refine lv_aload_n hx hb dX11_pass_378 rfl (lv_at hl 2 rfl) ?_
                          refine lv_iload_n hx hb dX11_pass_379 rfl (lv_at hl 3 rfl) ?_
                          refine lv_iconst (v := 1) hx hb dX11_pass_380 (by decide) ?_
                          refine k_inc hx hb dX11_pass_381 ?_
                          refine k_ialdN hx hb hK hP 6 0 rfl rfl (by omega) (by first | decide | omega) dX11_pass_382 ?_
                          refine k_topi (show (wv (i + 1)) = (c4.1.2.2.2.2.2.1 i) from hwi) ?_
                          refine lv_aload_n hx hb dX11_pass_383 rfl (lv_at hl 1 rfl) ?_
                          refine va_get (D := D) (ci := 9) (v := .int c5.1.2.1) (C := RX11) (T := TX11) (N := 9) hx hb hts in_X11 hown hK hP 0 rfl rfl 1 (by decide) (hts _ w_1209) (fun _ h9 => h9) rfl dX11_pass_384 ?_
                          refine lv_iconst (v := 2) hx hb dX11_pass_387 (by decide) ?_
                          refine lv_idiv hx hb dX11_pass_388 (by decide) ?_
                          refine k_topi (show (c5.1.2.1 / 2) = (c4.1.2.1 / 2) from (by rw [hcd])) ?_
                          refine lv_iadd hx hb dX11_pass_389 ?_
                          refine lv_aload hx hb dX11_pass_390 (lv_at hl 0 rfl) ?_
                          refine lv_iconst (v := 0) hx hb dX11_pass_392 (by decide) ?_
                          refine k_ldS (j := 2) (i := i) (q := 0) (v := tr 5 i) hx hb hK hP (by decide) (by omega) (by decide) rfl dX11_pass_393 ?_
                          refine lv_iconst (v := 4) hx hb dX11_pass_394 (by decide) ?_
                          refine lv_idiv hx hb dX11_pass_395 (by decide) ?_
                          refine lv_isub hx hb dX11_pass_396 ?_
                          refine lv_istore (lv' := [(5, .int (((c4.1.2.2.2.2.2.1 i) + (c4.1.2.1 / 2)) - ((tr 5 i) / 4))), (4, .ref (ad 2 i)), (0, .ref sm), (2, .ref q_1), (3, .int (nI i))]) hx hb dX11_pass_397 hl (by decide) rfl (fun ls hl => ?_)
                          refine lv_aload_n hx hb dX11_pass_399 rfl (lv_at hl 3 rfl) ?_
                          refine lv_iload_n hx hb dX11_pass_400 rfl (lv_at hl 4 rfl) ?_
                          refine k_ialdN hx hb hK hP 6 0 rfl rfl (by omega) (by first | decide | omega) dX11_pass_401 ?_
                          refine lv_aload_n hx hb dX11_pass_402 rfl (lv_at hl 3 rfl) ?_
                          refine lv_iload_n hx hb dX11_pass_403 rfl (lv_at hl 4 rfl) ?_
                          refine lv_iconst (v := 2) hx hb dX11_pass_404 (by decide) ?_
                          refine lv_iadd hx hb dX11_pass_405 ?_
                          refine k_topi (show ((nI i) + 2) = (nI (i + 2)) from (nI_add i 2)) ?_
                          refine k_ialdN hx hb hK hP 6 0 rfl rfl (by omega) (by first | decide | omega) dX11_pass_406 ?_
                          refine va_mmax hx hb (by rw [hml]; exact hl.1.symm) hown (hts _ w_783) (hts _ w_93) (hts _ w_54) (hts _ w_94) (Nat.le_of_ble_eq_true rfl) (Nat.le_of_ble_eq_true rfl) (Nat.le_of_ble_eq_true rfl) (by show 0 + (tn 2 + 2) ≤ 8; omega) dX11_pass_407 ?_
                          refine lv_bipush (v := 9) hx hb dX11_pass_410 (by decide) ?_
                          refine lv_icmp_le (tgt := 418) hx hb dX11_pass_412 (by decide) (fun c_412 => ?_) (fun c_412 => ?_)
                          · skip
                            have c412 := c_412
                            rw [hw5] at c412
                            have e5 : (((c4.1.2.2.2.2.2.1 i) + (c4.1.2.1 / 2)) - ((tr 5 i) / 4)) = fAf0 tr c4.1.2.1 (tn 2) c4.1.2.2.2.2.2.1 i := by first | exact af_t (by omega) ((wy_eq (by omega) (by omega)).trans (dt (Int32.not_le.mp c412))) | exact af_f (by omega) ((wy_eq (by omega) (by omega)).trans (df (Int32.not_lt.mpr c412)))
                            rw [e5] at hl
                            refine lv_aload hx hb dX11_pass_418 (lv_at hl 1 rfl) ?_
                            refine lv_iconst (v := 3) hx hb dX11_pass_420 (by decide) ?_
                            refine lv_iload hx hb dX11_pass_421 (lv_at hl 0 rfl) ?_
                            refine lv_if_ge (tgt := 430) hx hb dX11_pass_423 (by decide) (fun c_423 => ?_) (fun c_423 => ?_)
                            · skip
                              refine lv_iload hx hb dX11_pass_430 (lv_at hl 0 rfl) ?_
                              refine lv_bipush (v := 99) hx hb dX11_pass_432 (by decide) ?_
                              refine lv_icmp_le (tgt := 442) hx hb dX11_pass_434 (by decide) (fun c_434 => ?_) (fun c_434 => ?_)
                              · skip
                                refine lv_iload hx hb dX11_pass_442 (lv_at hl 0 rfl) ?_
                                refine k_topi (show (fAf0 tr c4.1.2.1 (tn 2) c4.1.2.2.2.2.2.1 i) = (fAft tr c4.1.2.1 (tn 2) c4.1.2.2.2.2.2.1 i) from (by first | exact aft_0 (Int32.not_le.mp c_423) | exact aft_9 c_434 | exact aft_n (Int32.not_lt.mpr c_423) c_434)) ?_
                                refine k_stS (j := 2) (i := i) (q := 3) hx hb hK hP hD hS (by decide) (by omega) (by decide) dX11_pass_444 (fun H locs hP7 hD7 hS7 => ?_)
                                clear hP hD hS
                                have hP := hP7
                                have hD := hD7
                                have hS := hS7
                                clear hP7 hD7 hS7
                                rw [sm_Wo] at hP hD
                                replace hP : va_P D CLS (([(sm, .inr (9, [.int c5.1.1, .int c5.1.2.1, .int c5.1.2.2.1, .int c5.2.1, .ref (ob 0), .ref (ob 1), .ref (ob 2), .ref (ob 3), .ref (ob 4)])), (ob 0, .inl (g 4, tn 0, .inr (.inr (.inr (.inr (bld (ad 0) (tn 0))))))), (ob 1, .inl (g 4, tn 1, .inr (.inr (.inr (.inr (bld (ad 1) (tn 1))))))), (ob 2, .inl (g 4, tn 2, .inr (.inr (.inr (.inr (bld (ad 2) (tn 2))))))), (ob 3, .inl (g 4, tn 3, .inr (.inr (.inr (.inr (bld (ad 3) (tn 3))))))), (ob 4, .inl (g 4, tn 4, .inr (.inr (.inr (.inr (bld (ad 4) (tn 4))))))), (q_1, .inl (g 0, tn 2 + 2, .inl wv))] : va_W) ++ simW (g 0) ad tn (simM tr od (uWo c5 i (fAft tr c4.1.2.1 (tn 2) c4.1.2.2.2.2.2.1 i)))) H := hP
                                replace hD : va_D A (([(sm, .inr (9, [.int c5.1.1, .int c5.1.2.1, .int c5.1.2.2.1, .int c5.2.1, .ref (ob 0), .ref (ob 1), .ref (ob 2), .ref (ob 3), .ref (ob 4)])), (ob 0, .inl (g 4, tn 0, .inr (.inr (.inr (.inr (bld (ad 0) (tn 0))))))), (ob 1, .inl (g 4, tn 1, .inr (.inr (.inr (.inr (bld (ad 1) (tn 1))))))), (ob 2, .inl (g 4, tn 2, .inr (.inr (.inr (.inr (bld (ad 2) (tn 2))))))), (ob 3, .inl (g 4, tn 3, .inr (.inr (.inr (.inr (bld (ad 3) (tn 3))))))), (ob 4, .inl (g 4, tn 4, .inr (.inr (.inr (.inr (bld (ad 4) (tn 4))))))), (q_1, .inl (g 0, tn 2 + 2, .inl wv))] : va_W) ++ simW (g 0) ad tn (simM tr od (uWo c5 i (fAft tr c4.1.2.1 (tn 2) c4.1.2.2.2.2.2.1 i)))) := hD
                                refine lv_aload hx hb dX11_pass_445 (lv_at hl 1 rfl) ?_
                                refine lv_iconst (v := 3) hx hb dX11_pass_447 (by decide) ?_
                                refine k_ldS (j := 2) (i := i) (q := 3) (v := (uWo c5 i (fAft tr c4.1.2.1 (tn 2) c4.1.2.2.2.2.2.1 i)).1.2.2.2.2.2.1 i) hx hb hK hP (by decide) (by omega) (by decide) rfl dX11_pass_448 ?_
                                refine k_topi (show ((uWo c5 i (fAft tr c4.1.2.1 (tn 2) c4.1.2.2.2.2.2.1 i)).1.2.2.2.2.2.1 i) = (fAft tr c4.1.2.1 (tn 2) c4.1.2.2.2.2.2.1 i) from pk_us) ?_
                                refine lv_bipush (v := 29) hx hb dX11_pass_449 (by decide) ?_
                                refine lv_icmp_le (tgt := 476) hx hb dX11_pass_451 (by decide) (fun c_451 => ?_) (fun c_451 => ?_)
                                · skip
                                  refine lv_iinc (v := nI (i + 1)) (lv' := [(3, .int (nI (i + 1))), (5, .int (fAf0 tr c4.1.2.1 (tn 2) c4.1.2.2.2.2.2.1 i)), (4, .ref (ad 2 i)), (0, .ref sm), (2, .ref q_1)]) hx hb dX11_pass_476 hl (k := 4) rfl (nI_1 i) (by decide) rfl (fun ls hl => ?_)
                                  refine lv_goto (tgt := 361) hx hb dX11_pass_479 (by decide) ?_
                                  exact ih_361  (i + 1) (uWo c5 i (fAft tr c4.1.2.1 (tn 2) c4.1.2.2.2.2.2.1 i)) (by omega) (by omega) (by first | exact gn_a (by omega) hc5 c_451 | exact gn_b (by omega) hc5 (bear_lt (hC4.2.2.2.2.2 i (by omega)) (by omega) c_458) | exact gn_c (by omega) hc5 hq0 hq1 c_465 | exact gn_d (by omega) hc5 hq0 hq1 c_451 (fun z => c_458 (by rw [z]; decide)) c_465) _ _ (va_P.part hP [0, 1, 2, 3, 4, 5, 6] rfl) (hD.part [0, 1, 2, 3, 4, 5, 6] (by decide +kernel) rfl) hS ls (lv_sub hl [3, 4, 0] rfl)
                                · skip
                                  refine lv_aload hx hb dX11_pass_454 (lv_at hl 1 rfl) ?_
                                  refine lv_iconst (v := 1) hx hb dX11_pass_456 (by decide) ?_
                                  refine k_ldS (j := 2) (i := i) (q := 1) (v := (uWo c5 i (fAft tr c4.1.2.1 (tn 2) c4.1.2.2.2.2.2.1 i)).1.2.2.2.1 i) hx hb hK hP (by decide) (by omega) (by decide) rfl dX11_pass_457 ?_
                                  refine k_topi (show ((uWo c5 i (fAft tr c4.1.2.1 (tn 2) c4.1.2.2.2.2.2.1 i)).1.2.2.2.1 i) = (c4.1.2.2.2.1 i) from (by show c5.1.2.2.2.1 i = _; rw [hcb])) ?_
                                  refine lv_if_lt (tgt := 476) hx hb dX11_pass_458 (by decide) (fun c_458 => ?_) (fun c_458 => ?_)
                                  · skip
                                    refine lv_iinc (v := nI (i + 1)) (lv' := [(3, .int (nI (i + 1))), (5, .int (fAf0 tr c4.1.2.1 (tn 2) c4.1.2.2.2.2.2.1 i)), (4, .ref (ad 2 i)), (0, .ref sm), (2, .ref q_1)]) hx hb dX11_pass_476 hl (k := 4) rfl (nI_1 i) (by decide) rfl (fun ls hl => ?_)
                                    refine lv_goto (tgt := 361) hx hb dX11_pass_479 (by decide) ?_
                                    exact ih_361  (i + 1) (uWo c5 i (fAft tr c4.1.2.1 (tn 2) c4.1.2.2.2.2.2.1 i)) (by omega) (by omega) (by first | exact gn_a (by omega) hc5 c_451 | exact gn_b (by omega) hc5 (bear_lt (hC4.2.2.2.2.2 i (by omega)) (by omega) c_458) | exact gn_c (by omega) hc5 hq0 hq1 c_465 | exact gn_d (by omega) hc5 hq0 hq1 c_451 (fun z => c_458 (by rw [z]; decide)) c_465) _ _ (va_P.part hP [0, 1, 2, 3, 4, 5, 6] rfl) (hD.part [0, 1, 2, 3, 4, 5, 6] (by decide +kernel) rfl) hS ls (lv_sub hl [3, 4, 0] rfl)
                                  · skip
                                    refine lv_aload hx hb dX11_pass_461 (lv_at hl 1 rfl) ?_
                                    refine lv_iconst (v := 2) hx hb dX11_pass_463 (by decide) ?_
                                    refine k_ldS (j := 2) (i := i) (q := 2) (v := (uWo c5 i (fAft tr c4.1.2.1 (tn 2) c4.1.2.2.2.2.2.1 i)).1.2.2.2.2.1 i) hx hb hK hP (by decide) (by omega) (by decide) rfl dX11_pass_464 ?_
                                    refine k_topi (show ((uWo c5 i (fAft tr c4.1.2.1 (tn 2) c4.1.2.2.2.2.2.1 i)).1.2.2.2.2.1 i) = (c5.1.2.2.2.2.1 i) from rfl) ?_
                                    refine lv_if_le (tgt := 476) hx hb dX11_pass_465 (by decide) (fun c_465 => ?_) (fun c_465 => ?_)
                                    · skip
                                      refine lv_iinc (v := nI (i + 1)) (lv' := [(3, .int (nI (i + 1))), (5, .int (fAf0 tr c4.1.2.1 (tn 2) c4.1.2.2.2.2.2.1 i)), (4, .ref (ad 2 i)), (0, .ref sm), (2, .ref q_1)]) hx hb dX11_pass_476 hl (k := 4) rfl (nI_1 i) (by decide) rfl (fun ls hl => ?_)
                                      refine lv_goto (tgt := 361) hx hb dX11_pass_479 (by decide) ?_
                                      exact ih_361  (i + 1) (uWo c5 i (fAft tr c4.1.2.1 (tn 2) c4.1.2.2.2.2.2.1 i)) (by omega) (by omega) (by first | exact gn_a (by omega) hc5 c_451 | exact gn_b (by omega) hc5 (bear_lt (hC4.2.2.2.2.2 i (by omega)) (by omega) c_458) | exact gn_c (by omega) hc5 hq0 hq1 c_465 | exact gn_d (by omega) hc5 hq0 hq1 c_451 (fun z => c_458 (by rw [z]; decide)) c_465) _ _ (va_P.part hP [0, 1, 2, 3, 4, 5, 6] rfl) (hD.part [0, 1, 2, 3, 4, 5, 6] (by decide +kernel) rfl) hS ls (lv_sub hl [3, 4, 0] rfl)
                                    · skip
                                      refine lv_aload hx hb dX11_pass_468 (lv_at hl 1 rfl) ?_
                                      refine lv_iconst (v := 2) hx hb dX11_pass_470 (by decide) ?_
                                      refine lv_dup2_11 hx hb dX11_pass_471 rfl rfl ?_
                                      refine k_ldS (j := 2) (i := i) (q := 2) (v := (uWo c5 i (fAft tr c4.1.2.1 (tn 2) c4.1.2.2.2.2.2.1 i)).1.2.2.2.2.1 i) hx hb hK hP (by decide) (by omega) (by decide) rfl dX11_pass_472 ?_
                                      refine k_topi (show ((uWo c5 i (fAft tr c4.1.2.1 (tn 2) c4.1.2.2.2.2.2.1 i)).1.2.2.2.2.1 i) = (c5.1.2.2.2.2.1 i) from rfl) ?_
                                      refine lv_iconst (v := 1) hx hb dX11_pass_473 (by decide) ?_
                                      refine lv_isub hx hb dX11_pass_474 ?_
                                      refine k_stS (j := 2) (i := i) (q := 2) hx hb hK hP hD hS (by decide) (by omega) (by decide) dX11_pass_475 (fun H locs hP7 hD7 hS7 => ?_)
                                      clear hP hD hS
                                      have hP := hP7
                                      have hD := hD7
                                      have hS := hS7
                                      clear hP7 hD7 hS7
                                      rw [sm_Qu] at hP hD
                                      replace hP : va_P D CLS (([(sm, .inr (9, [.int c5.1.1, .int c5.1.2.1, .int c5.1.2.2.1, .int c5.2.1, .ref (ob 0), .ref (ob 1), .ref (ob 2), .ref (ob 3), .ref (ob 4)])), (ob 0, .inl (g 4, tn 0, .inr (.inr (.inr (.inr (bld (ad 0) (tn 0))))))), (ob 1, .inl (g 4, tn 1, .inr (.inr (.inr (.inr (bld (ad 1) (tn 1))))))), (ob 2, .inl (g 4, tn 2, .inr (.inr (.inr (.inr (bld (ad 2) (tn 2))))))), (ob 3, .inl (g 4, tn 3, .inr (.inr (.inr (.inr (bld (ad 3) (tn 3))))))), (ob 4, .inl (g 4, tn 4, .inr (.inr (.inr (.inr (bld (ad 4) (tn 4))))))), (q_1, .inl (g 0, tn 2 + 2, .inl wv))] : va_W) ++ simW (g 0) ad tn (simM tr od (uQu (uWo c5 i (fAft tr c4.1.2.1 (tn 2) c4.1.2.2.2.2.2.1 i)) i ((c5.1.2.2.2.2.1 i) - 1)))) H := hP
                                      replace hD : va_D A (([(sm, .inr (9, [.int c5.1.1, .int c5.1.2.1, .int c5.1.2.2.1, .int c5.2.1, .ref (ob 0), .ref (ob 1), .ref (ob 2), .ref (ob 3), .ref (ob 4)])), (ob 0, .inl (g 4, tn 0, .inr (.inr (.inr (.inr (bld (ad 0) (tn 0))))))), (ob 1, .inl (g 4, tn 1, .inr (.inr (.inr (.inr (bld (ad 1) (tn 1))))))), (ob 2, .inl (g 4, tn 2, .inr (.inr (.inr (.inr (bld (ad 2) (tn 2))))))), (ob 3, .inl (g 4, tn 3, .inr (.inr (.inr (.inr (bld (ad 3) (tn 3))))))), (ob 4, .inl (g 4, tn 4, .inr (.inr (.inr (.inr (bld (ad 4) (tn 4))))))), (q_1, .inl (g 0, tn 2 + 2, .inl wv))] : va_W) ++ simW (g 0) ad tn (simM tr od (uQu (uWo c5 i (fAft tr c4.1.2.1 (tn 2) c4.1.2.2.2.2.2.1 i)) i ((c5.1.2.2.2.2.1 i) - 1)))) := hD
                                      refine lv_iinc (v := nI (i + 1)) (lv' := [(3, .int (nI (i + 1))), (5, .int (fAf0 tr c4.1.2.1 (tn 2) c4.1.2.2.2.2.2.1 i)), (4, .ref (ad 2 i)), (0, .ref sm), (2, .ref q_1)]) hx hb dX11_pass_476 hl (k := 4) rfl (nI_1 i) (by decide) rfl (fun ls hl => ?_)
                                      refine lv_goto (tgt := 361) hx hb dX11_pass_479 (by decide) ?_
                                      exact ih_361  (i + 1) (uQu (uWo c5 i (fAft tr c4.1.2.1 (tn 2) c4.1.2.2.2.2.2.1 i)) i ((c5.1.2.2.2.2.1 i) - 1)) (by omega) (by omega) (by first | exact gn_a (by omega) hc5 c_451 | exact gn_b (by omega) hc5 (bear_lt (hC4.2.2.2.2.2 i (by omega)) (by omega) c_458) | exact gn_c (by omega) hc5 hq0 hq1 c_465 | exact gn_d (by omega) hc5 hq0 hq1 c_451 (fun z => c_458 (by rw [z]; decide)) c_465) _ _ (va_P.part hP [0, 1, 2, 3, 4, 5, 6] rfl) (hD.part [0, 1, 2, 3, 4, 5, 6] (by decide +kernel) rfl) hS ls (lv_sub hl [3, 4, 0] rfl)
                              · skip
                                refine lv_bipush (v := 99) hx hb dX11_pass_437 (by decide) ?_
                                refine lv_goto (tgt := 444) hx hb dX11_pass_439 (by decide) ?_
                                refine k_topi (show (99 : Int32) = (fAft tr c4.1.2.1 (tn 2) c4.1.2.2.2.2.2.1 i) from (by first | exact aft_0 (Int32.not_le.mp c_423) | exact aft_9 c_434 | exact aft_n (Int32.not_lt.mpr c_423) c_434)) ?_
                                refine k_stS (j := 2) (i := i) (q := 3) hx hb hK hP hD hS (by decide) (by omega) (by decide) dX11_pass_444 (fun H locs hP7 hD7 hS7 => ?_)
                                clear hP hD hS
                                have hP := hP7
                                have hD := hD7
                                have hS := hS7
                                clear hP7 hD7 hS7
                                rw [sm_Wo] at hP hD
                                replace hP : va_P D CLS (([(sm, .inr (9, [.int c5.1.1, .int c5.1.2.1, .int c5.1.2.2.1, .int c5.2.1, .ref (ob 0), .ref (ob 1), .ref (ob 2), .ref (ob 3), .ref (ob 4)])), (ob 0, .inl (g 4, tn 0, .inr (.inr (.inr (.inr (bld (ad 0) (tn 0))))))), (ob 1, .inl (g 4, tn 1, .inr (.inr (.inr (.inr (bld (ad 1) (tn 1))))))), (ob 2, .inl (g 4, tn 2, .inr (.inr (.inr (.inr (bld (ad 2) (tn 2))))))), (ob 3, .inl (g 4, tn 3, .inr (.inr (.inr (.inr (bld (ad 3) (tn 3))))))), (ob 4, .inl (g 4, tn 4, .inr (.inr (.inr (.inr (bld (ad 4) (tn 4))))))), (q_1, .inl (g 0, tn 2 + 2, .inl wv))] : va_W) ++ simW (g 0) ad tn (simM tr od (uWo c5 i (fAft tr c4.1.2.1 (tn 2) c4.1.2.2.2.2.2.1 i)))) H := hP
                                replace hD : va_D A (([(sm, .inr (9, [.int c5.1.1, .int c5.1.2.1, .int c5.1.2.2.1, .int c5.2.1, .ref (ob 0), .ref (ob 1), .ref (ob 2), .ref (ob 3), .ref (ob 4)])), (ob 0, .inl (g 4, tn 0, .inr (.inr (.inr (.inr (bld (ad 0) (tn 0))))))), (ob 1, .inl (g 4, tn 1, .inr (.inr (.inr (.inr (bld (ad 1) (tn 1))))))), (ob 2, .inl (g 4, tn 2, .inr (.inr (.inr (.inr (bld (ad 2) (tn 2))))))), (ob 3, .inl (g 4, tn 3, .inr (.inr (.inr (.inr (bld (ad 3) (tn 3))))))), (ob 4, .inl (g 4, tn 4, .inr (.inr (.inr (.inr (bld (ad 4) (tn 4))))))), (q_1, .inl (g 0, tn 2 + 2, .inl wv))] : va_W) ++ simW (g 0) ad tn (simM tr od (uWo c5 i (fAft tr c4.1.2.1 (tn 2) c4.1.2.2.2.2.2.1 i)))) := hD
                                refine lv_aload hx hb dX11_pass_445 (lv_at hl 1 rfl) ?_
                                refine lv_iconst (v := 3) hx hb dX11_pass_447 (by decide) ?_
                                refine k_ldS (j := 2) (i := i) (q := 3) (v := (uWo c5 i (fAft tr c4.1.2.1 (tn 2) c4.1.2.2.2.2.2.1 i)).1.2.2.2.2.2.1 i) hx hb hK hP (by decide) (by omega) (by decide) rfl dX11_pass_448 ?_
                                refine k_topi (show ((uWo c5 i (fAft tr c4.1.2.1 (tn 2) c4.1.2.2.2.2.2.1 i)).1.2.2.2.2.2.1 i) = (fAft tr c4.1.2.1 (tn 2) c4.1.2.2.2.2.2.1 i) from pk_us) ?_
                                refine lv_bipush (v := 29) hx hb dX11_pass_449 (by decide) ?_
                                refine lv_icmp_le (tgt := 476) hx hb dX11_pass_451 (by decide) (fun c_451 => ?_) (fun c_451 => ?_)
                                · skip
                                  refine lv_iinc (v := nI (i + 1)) (lv' := [(3, .int (nI (i + 1))), (5, .int (fAf0 tr c4.1.2.1 (tn 2) c4.1.2.2.2.2.2.1 i)), (4, .ref (ad 2 i)), (0, .ref sm), (2, .ref q_1)]) hx hb dX11_pass_476 hl (k := 4) rfl (nI_1 i) (by decide) rfl (fun ls hl => ?_)
                                  refine lv_goto (tgt := 361) hx hb dX11_pass_479 (by decide) ?_
                                  exact ih_361  (i + 1) (uWo c5 i (fAft tr c4.1.2.1 (tn 2) c4.1.2.2.2.2.2.1 i)) (by omega) (by omega) (by first | exact gn_a (by omega) hc5 c_451 | exact gn_b (by omega) hc5 (bear_lt (hC4.2.2.2.2.2 i (by omega)) (by omega) c_458) | exact gn_c (by omega) hc5 hq0 hq1 c_465 | exact gn_d (by omega) hc5 hq0 hq1 c_451 (fun z => c_458 (by rw [z]; decide)) c_465) _ _ (va_P.part hP [0, 1, 2, 3, 4, 5, 6] rfl) (hD.part [0, 1, 2, 3, 4, 5, 6] (by decide +kernel) rfl) hS ls (lv_sub hl [3, 4, 0] rfl)
                                · skip
                                  refine lv_aload hx hb dX11_pass_454 (lv_at hl 1 rfl) ?_
                                  refine lv_iconst (v := 1) hx hb dX11_pass_456 (by decide) ?_
                                  refine k_ldS (j := 2) (i := i) (q := 1) (v := (uWo c5 i (fAft tr c4.1.2.1 (tn 2) c4.1.2.2.2.2.2.1 i)).1.2.2.2.1 i) hx hb hK hP (by decide) (by omega) (by decide) rfl dX11_pass_457 ?_
                                  refine k_topi (show ((uWo c5 i (fAft tr c4.1.2.1 (tn 2) c4.1.2.2.2.2.2.1 i)).1.2.2.2.1 i) = (c4.1.2.2.2.1 i) from (by show c5.1.2.2.2.1 i = _; rw [hcb])) ?_
                                  refine lv_if_lt (tgt := 476) hx hb dX11_pass_458 (by decide) (fun c_458 => ?_) (fun c_458 => ?_)
                                  · skip
                                    refine lv_iinc (v := nI (i + 1)) (lv' := [(3, .int (nI (i + 1))), (5, .int (fAf0 tr c4.1.2.1 (tn 2) c4.1.2.2.2.2.2.1 i)), (4, .ref (ad 2 i)), (0, .ref sm), (2, .ref q_1)]) hx hb dX11_pass_476 hl (k := 4) rfl (nI_1 i) (by decide) rfl (fun ls hl => ?_)
                                    refine lv_goto (tgt := 361) hx hb dX11_pass_479 (by decide) ?_
                                    exact ih_361  (i + 1) (uWo c5 i (fAft tr c4.1.2.1 (tn 2) c4.1.2.2.2.2.2.1 i)) (by omega) (by omega) (by first | exact gn_a (by omega) hc5 c_451 | exact gn_b (by omega) hc5 (bear_lt (hC4.2.2.2.2.2 i (by omega)) (by omega) c_458) | exact gn_c (by omega) hc5 hq0 hq1 c_465 | exact gn_d (by omega) hc5 hq0 hq1 c_451 (fun z => c_458 (by rw [z]; decide)) c_465) _ _ (va_P.part hP [0, 1, 2, 3, 4, 5, 6] rfl) (hD.part [0, 1, 2, 3, 4, 5, 6] (by decide +kernel) rfl) hS ls (lv_sub hl [3, 4, 0] rfl)
                                  · skip
                                    refine lv_aload hx hb dX11_pass_461 (lv_at hl 1 rfl) ?_
                                    refine lv_iconst (v := 2) hx hb dX11_pass_463 (by decide) ?_
                                    refine k_ldS (j := 2) (i := i) (q := 2) (v := (uWo c5 i (fAft tr c4.1.2.1 (tn 2) c4.1.2.2.2.2.2.1 i)).1.2.2.2.2.1 i) hx hb hK hP (by decide) (by omega) (by decide) rfl dX11_pass_464 ?_
                                    refine k_topi (show ((uWo c5 i (fAft tr c4.1.2.1 (tn 2) c4.1.2.2.2.2.2.1 i)).1.2.2.2.2.1 i) = (c5.1.2.2.2.2.1 i) from rfl) ?_
                                    refine lv_if_le (tgt := 476) hx hb dX11_pass_465 (by decide) (fun c_465 => ?_) (fun c_465 => ?_)
                                    · skip
                                      refine lv_iinc (v := nI (i + 1)) (lv' := [(3, .int (nI (i + 1))), (5, .int (fAf0 tr c4.1.2.1 (tn 2) c4.1.2.2.2.2.2.1 i)), (4, .ref (ad 2 i)), (0, .ref sm), (2, .ref q_1)]) hx hb dX11_pass_476 hl (k := 4) rfl (nI_1 i) (by decide) rfl (fun ls hl => ?_)
                                      refine lv_goto (tgt := 361) hx hb dX11_pass_479 (by decide) ?_
                                      exact ih_361  (i + 1) (uWo c5 i (fAft tr c4.1.2.1 (tn 2) c4.1.2.2.2.2.2.1 i)) (by omega) (by omega) (by first | exact gn_a (by omega) hc5 c_451 | exact gn_b (by omega) hc5 (bear_lt (hC4.2.2.2.2.2 i (by omega)) (by omega) c_458) | exact gn_c (by omega) hc5 hq0 hq1 c_465 | exact gn_d (by omega) hc5 hq0 hq1 c_451 (fun z => c_458 (by rw [z]; decide)) c_465) _ _ (va_P.part hP [0, 1, 2, 3, 4, 5, 6] rfl) (hD.part [0, 1, 2, 3, 4, 5, 6] (by decide +kernel) rfl) hS ls (lv_sub hl [3, 4, 0] rfl)
                                    · skip
                                      refine lv_aload hx hb dX11_pass_468 (lv_at hl 1 rfl) ?_
                                      refine lv_iconst (v := 2) hx hb dX11_pass_470 (by decide) ?_
                                      refine lv_dup2_11 hx hb dX11_pass_471 rfl rfl ?_
                                      refine k_ldS (j := 2) (i := i) (q := 2) (v := (uWo c5 i (fAft tr c4.1.2.1 (tn 2) c4.1.2.2.2.2.2.1 i)).1.2.2.2.2.1 i) hx hb hK hP (by decide) (by omega) (by decide) rfl dX11_pass_472 ?_
                                      refine k_topi (show ((uWo c5 i (fAft tr c4.1.2.1 (tn 2) c4.1.2.2.2.2.2.1 i)).1.2.2.2.2.1 i) = (c5.1.2.2.2.2.1 i) from rfl) ?_
                                      refine lv_iconst (v := 1) hx hb dX11_pass_473 (by decide) ?_
                                      refine lv_isub hx hb dX11_pass_474 ?_
                                      refine k_stS (j := 2) (i := i) (q := 2) hx hb hK hP hD hS (by decide) (by omega) (by decide) dX11_pass_475 (fun H locs hP7 hD7 hS7 => ?_)
                                      clear hP hD hS
                                      have hP := hP7
                                      have hD := hD7
                                      have hS := hS7
                                      clear hP7 hD7 hS7
                                      rw [sm_Qu] at hP hD
                                      replace hP : va_P D CLS (([(sm, .inr (9, [.int c5.1.1, .int c5.1.2.1, .int c5.1.2.2.1, .int c5.2.1, .ref (ob 0), .ref (ob 1), .ref (ob 2), .ref (ob 3), .ref (ob 4)])), (ob 0, .inl (g 4, tn 0, .inr (.inr (.inr (.inr (bld (ad 0) (tn 0))))))), (ob 1, .inl (g 4, tn 1, .inr (.inr (.inr (.inr (bld (ad 1) (tn 1))))))), (ob 2, .inl (g 4, tn 2, .inr (.inr (.inr (.inr (bld (ad 2) (tn 2))))))), (ob 3, .inl (g 4, tn 3, .inr (.inr (.inr (.inr (bld (ad 3) (tn 3))))))), (ob 4, .inl (g 4, tn 4, .inr (.inr (.inr (.inr (bld (ad 4) (tn 4))))))), (q_1, .inl (g 0, tn 2 + 2, .inl wv))] : va_W) ++ simW (g 0) ad tn (simM tr od (uQu (uWo c5 i (fAft tr c4.1.2.1 (tn 2) c4.1.2.2.2.2.2.1 i)) i ((c5.1.2.2.2.2.1 i) - 1)))) H := hP
                                      replace hD : va_D A (([(sm, .inr (9, [.int c5.1.1, .int c5.1.2.1, .int c5.1.2.2.1, .int c5.2.1, .ref (ob 0), .ref (ob 1), .ref (ob 2), .ref (ob 3), .ref (ob 4)])), (ob 0, .inl (g 4, tn 0, .inr (.inr (.inr (.inr (bld (ad 0) (tn 0))))))), (ob 1, .inl (g 4, tn 1, .inr (.inr (.inr (.inr (bld (ad 1) (tn 1))))))), (ob 2, .inl (g 4, tn 2, .inr (.inr (.inr (.inr (bld (ad 2) (tn 2))))))), (ob 3, .inl (g 4, tn 3, .inr (.inr (.inr (.inr (bld (ad 3) (tn 3))))))), (ob 4, .inl (g 4, tn 4, .inr (.inr (.inr (.inr (bld (ad 4) (tn 4))))))), (q_1, .inl (g 0, tn 2 + 2, .inl wv))] : va_W) ++ simW (g 0) ad tn (simM tr od (uQu (uWo c5 i (fAft tr c4.1.2.1 (tn 2) c4.1.2.2.2.2.2.1 i)) i ((c5.1.2.2.2.2.1 i) - 1)))) := hD
                                      refine lv_iinc (v := nI (i + 1)) (lv' := [(3, .int (nI (i + 1))), (5, .int (fAf0 tr c4.1.2.1 (tn 2) c4.1.2.2.2.2.2.1 i)), (4, .ref (ad 2 i)), (0, .ref sm), (2, .ref q_1)]) hx hb dX11_pass_476 hl (k := 4) rfl (nI_1 i) (by decide) rfl (fun ls hl => ?_)
                                      refine lv_goto (tgt := 361) hx hb dX11_pass_479 (by decide) ?_
                                      exact ih_361  (i + 1) (uQu (uWo c5 i (fAft tr c4.1.2.1 (tn 2) c4.1.2.2.2.2.2.1 i)) i ((c5.1.2.2.2.2.1 i) - 1)) (by omega) (by omega) (by first | exact gn_a (by omega) hc5 c_451 | exact gn_b (by omega) hc5 (bear_lt (hC4.2.2.2.2.2 i (by omega)) (by omega) c_458) | exact gn_c (by omega) hc5 hq0 hq1 c_465 | exact gn_d (by omega) hc5 hq0 hq1 c_451 (fun z => c_458 (by rw [z]; decide)) c_465) _ _ (va_P.part hP [0, 1, 2, 3, 4, 5, 6] rfl) (hD.part [0, 1, 2, 3, 4, 5, 6] (by decide +kernel) rfl) hS ls (lv_sub hl [3, 4, 0] rfl)
                            · skip
                              refine lv_iconst (v := 0) hx hb dX11_pass_426 (by decide) ?_
                              refine lv_goto (tgt := 444) hx hb dX11_pass_427 (by decide) ?_
                              refine k_topi (show (0 : Int32) = (fAft tr c4.1.2.1 (tn 2) c4.1.2.2.2.2.2.1 i) from (by first | exact aft_0 (Int32.not_le.mp c_423) | exact aft_9 c_434 | exact aft_n (Int32.not_lt.mpr c_423) c_434)) ?_
                              refine k_stS (j := 2) (i := i) (q := 3) hx hb hK hP hD hS (by decide) (by omega) (by decide) dX11_pass_444 (fun H locs hP7 hD7 hS7 => ?_)
                              clear hP hD hS
                              have hP := hP7
                              have hD := hD7
                              have hS := hS7
                              clear hP7 hD7 hS7
                              rw [sm_Wo] at hP hD
                              replace hP : va_P D CLS (([(sm, .inr (9, [.int c5.1.1, .int c5.1.2.1, .int c5.1.2.2.1, .int c5.2.1, .ref (ob 0), .ref (ob 1), .ref (ob 2), .ref (ob 3), .ref (ob 4)])), (ob 0, .inl (g 4, tn 0, .inr (.inr (.inr (.inr (bld (ad 0) (tn 0))))))), (ob 1, .inl (g 4, tn 1, .inr (.inr (.inr (.inr (bld (ad 1) (tn 1))))))), (ob 2, .inl (g 4, tn 2, .inr (.inr (.inr (.inr (bld (ad 2) (tn 2))))))), (ob 3, .inl (g 4, tn 3, .inr (.inr (.inr (.inr (bld (ad 3) (tn 3))))))), (ob 4, .inl (g 4, tn 4, .inr (.inr (.inr (.inr (bld (ad 4) (tn 4))))))), (q_1, .inl (g 0, tn 2 + 2, .inl wv))] : va_W) ++ simW (g 0) ad tn (simM tr od (uWo c5 i (fAft tr c4.1.2.1 (tn 2) c4.1.2.2.2.2.2.1 i)))) H := hP
                              replace hD : va_D A (([(sm, .inr (9, [.int c5.1.1, .int c5.1.2.1, .int c5.1.2.2.1, .int c5.2.1, .ref (ob 0), .ref (ob 1), .ref (ob 2), .ref (ob 3), .ref (ob 4)])), (ob 0, .inl (g 4, tn 0, .inr (.inr (.inr (.inr (bld (ad 0) (tn 0))))))), (ob 1, .inl (g 4, tn 1, .inr (.inr (.inr (.inr (bld (ad 1) (tn 1))))))), (ob 2, .inl (g 4, tn 2, .inr (.inr (.inr (.inr (bld (ad 2) (tn 2))))))), (ob 3, .inl (g 4, tn 3, .inr (.inr (.inr (.inr (bld (ad 3) (tn 3))))))), (ob 4, .inl (g 4, tn 4, .inr (.inr (.inr (.inr (bld (ad 4) (tn 4))))))), (q_1, .inl (g 0, tn 2 + 2, .inl wv))] : va_W) ++ simW (g 0) ad tn (simM tr od (uWo c5 i (fAft tr c4.1.2.1 (tn 2) c4.1.2.2.2.2.2.1 i)))) := hD
                              refine lv_aload hx hb dX11_pass_445 (lv_at hl 1 rfl) ?_
                              refine lv_iconst (v := 3) hx hb dX11_pass_447 (by decide) ?_
                              refine k_ldS (j := 2) (i := i) (q := 3) (v := (uWo c5 i (fAft tr c4.1.2.1 (tn 2) c4.1.2.2.2.2.2.1 i)).1.2.2.2.2.2.1 i) hx hb hK hP (by decide) (by omega) (by decide) rfl dX11_pass_448 ?_
                              refine k_topi (show ((uWo c5 i (fAft tr c4.1.2.1 (tn 2) c4.1.2.2.2.2.2.1 i)).1.2.2.2.2.2.1 i) = (fAft tr c4.1.2.1 (tn 2) c4.1.2.2.2.2.2.1 i) from pk_us) ?_
                              refine lv_bipush (v := 29) hx hb dX11_pass_449 (by decide) ?_
                              refine lv_icmp_le (tgt := 476) hx hb dX11_pass_451 (by decide) (fun c_451 => ?_) (fun c_451 => ?_)
                              · skip
                                refine lv_iinc (v := nI (i + 1)) (lv' := [(3, .int (nI (i + 1))), (5, .int (fAf0 tr c4.1.2.1 (tn 2) c4.1.2.2.2.2.2.1 i)), (4, .ref (ad 2 i)), (0, .ref sm), (2, .ref q_1)]) hx hb dX11_pass_476 hl (k := 4) rfl (nI_1 i) (by decide) rfl (fun ls hl => ?_)
                                refine lv_goto (tgt := 361) hx hb dX11_pass_479 (by decide) ?_
                                exact ih_361  (i + 1) (uWo c5 i (fAft tr c4.1.2.1 (tn 2) c4.1.2.2.2.2.2.1 i)) (by omega) (by omega) (by first | exact gn_a (by omega) hc5 c_451 | exact gn_b (by omega) hc5 (bear_lt (hC4.2.2.2.2.2 i (by omega)) (by omega) c_458) | exact gn_c (by omega) hc5 hq0 hq1 c_465 | exact gn_d (by omega) hc5 hq0 hq1 c_451 (fun z => c_458 (by rw [z]; decide)) c_465) _ _ (va_P.part hP [0, 1, 2, 3, 4, 5, 6] rfl) (hD.part [0, 1, 2, 3, 4, 5, 6] (by decide +kernel) rfl) hS ls (lv_sub hl [3, 4, 0] rfl)
                              · skip
                                refine lv_aload hx hb dX11_pass_454 (lv_at hl 1 rfl) ?_
                                refine lv_iconst (v := 1) hx hb dX11_pass_456 (by decide) ?_
                                refine k_ldS (j := 2) (i := i) (q := 1) (v := (uWo c5 i (fAft tr c4.1.2.1 (tn 2) c4.1.2.2.2.2.2.1 i)).1.2.2.2.1 i) hx hb hK hP (by decide) (by omega) (by decide) rfl dX11_pass_457 ?_
                                refine k_topi (show ((uWo c5 i (fAft tr c4.1.2.1 (tn 2) c4.1.2.2.2.2.2.1 i)).1.2.2.2.1 i) = (c4.1.2.2.2.1 i) from (by show c5.1.2.2.2.1 i = _; rw [hcb])) ?_
                                refine lv_if_lt (tgt := 476) hx hb dX11_pass_458 (by decide) (fun c_458 => ?_) (fun c_458 => ?_)
                                · skip
                                  refine lv_iinc (v := nI (i + 1)) (lv' := [(3, .int (nI (i + 1))), (5, .int (fAf0 tr c4.1.2.1 (tn 2) c4.1.2.2.2.2.2.1 i)), (4, .ref (ad 2 i)), (0, .ref sm), (2, .ref q_1)]) hx hb dX11_pass_476 hl (k := 4) rfl (nI_1 i) (by decide) rfl (fun ls hl => ?_)
                                  refine lv_goto (tgt := 361) hx hb dX11_pass_479 (by decide) ?_
                                  exact ih_361  (i + 1) (uWo c5 i (fAft tr c4.1.2.1 (tn 2) c4.1.2.2.2.2.2.1 i)) (by omega) (by omega) (by first | exact gn_a (by omega) hc5 c_451 | exact gn_b (by omega) hc5 (bear_lt (hC4.2.2.2.2.2 i (by omega)) (by omega) c_458) | exact gn_c (by omega) hc5 hq0 hq1 c_465 | exact gn_d (by omega) hc5 hq0 hq1 c_451 (fun z => c_458 (by rw [z]; decide)) c_465) _ _ (va_P.part hP [0, 1, 2, 3, 4, 5, 6] rfl) (hD.part [0, 1, 2, 3, 4, 5, 6] (by decide +kernel) rfl) hS ls (lv_sub hl [3, 4, 0] rfl)
                                · skip
                                  refine lv_aload hx hb dX11_pass_461 (lv_at hl 1 rfl) ?_
                                  refine lv_iconst (v := 2) hx hb dX11_pass_463 (by decide) ?_
                                  refine k_ldS (j := 2) (i := i) (q := 2) (v := (uWo c5 i (fAft tr c4.1.2.1 (tn 2) c4.1.2.2.2.2.2.1 i)).1.2.2.2.2.1 i) hx hb hK hP (by decide) (by omega) (by decide) rfl dX11_pass_464 ?_
                                  refine k_topi (show ((uWo c5 i (fAft tr c4.1.2.1 (tn 2) c4.1.2.2.2.2.2.1 i)).1.2.2.2.2.1 i) = (c5.1.2.2.2.2.1 i) from rfl) ?_
                                  refine lv_if_le (tgt := 476) hx hb dX11_pass_465 (by decide) (fun c_465 => ?_) (fun c_465 => ?_)
                                  · skip
                                    refine lv_iinc (v := nI (i + 1)) (lv' := [(3, .int (nI (i + 1))), (5, .int (fAf0 tr c4.1.2.1 (tn 2) c4.1.2.2.2.2.2.1 i)), (4, .ref (ad 2 i)), (0, .ref sm), (2, .ref q_1)]) hx hb dX11_pass_476 hl (k := 4) rfl (nI_1 i) (by decide) rfl (fun ls hl => ?_)
                                    refine lv_goto (tgt := 361) hx hb dX11_pass_479 (by decide) ?_
                                    exact ih_361  (i + 1) (uWo c5 i (fAft tr c4.1.2.1 (tn 2) c4.1.2.2.2.2.2.1 i)) (by omega) (by omega) (by first | exact gn_a (by omega) hc5 c_451 | exact gn_b (by omega) hc5 (bear_lt (hC4.2.2.2.2.2 i (by omega)) (by omega) c_458) | exact gn_c (by omega) hc5 hq0 hq1 c_465 | exact gn_d (by omega) hc5 hq0 hq1 c_451 (fun z => c_458 (by rw [z]; decide)) c_465) _ _ (va_P.part hP [0, 1, 2, 3, 4, 5, 6] rfl) (hD.part [0, 1, 2, 3, 4, 5, 6] (by decide +kernel) rfl) hS ls (lv_sub hl [3, 4, 0] rfl)
                                  · skip
                                    refine lv_aload hx hb dX11_pass_468 (lv_at hl 1 rfl) ?_
                                    refine lv_iconst (v := 2) hx hb dX11_pass_470 (by decide) ?_
                                    refine lv_dup2_11 hx hb dX11_pass_471 rfl rfl ?_
                                    refine k_ldS (j := 2) (i := i) (q := 2) (v := (uWo c5 i (fAft tr c4.1.2.1 (tn 2) c4.1.2.2.2.2.2.1 i)).1.2.2.2.2.1 i) hx hb hK hP (by decide) (by omega) (by decide) rfl dX11_pass_472 ?_
                                    refine k_topi (show ((uWo c5 i (fAft tr c4.1.2.1 (tn 2) c4.1.2.2.2.2.2.1 i)).1.2.2.2.2.1 i) = (c5.1.2.2.2.2.1 i) from rfl) ?_
                                    refine lv_iconst (v := 1) hx hb dX11_pass_473 (by decide) ?_
                                    refine lv_isub hx hb dX11_pass_474 ?_
                                    refine k_stS (j := 2) (i := i) (q := 2) hx hb hK hP hD hS (by decide) (by omega) (by decide) dX11_pass_475 (fun H locs hP7 hD7 hS7 => ?_)
                                    clear hP hD hS
                                    have hP := hP7
                                    have hD := hD7
                                    have hS := hS7
                                    clear hP7 hD7 hS7
                                    rw [sm_Qu] at hP hD
                                    replace hP : va_P D CLS (([(sm, .inr (9, [.int c5.1.1, .int c5.1.2.1, .int c5.1.2.2.1, .int c5.2.1, .ref (ob 0), .ref (ob 1), .ref (ob 2), .ref (ob 3), .ref (ob 4)])), (ob 0, .inl (g 4, tn 0, .inr (.inr (.inr (.inr (bld (ad 0) (tn 0))))))), (ob 1, .inl (g 4, tn 1, .inr (.inr (.inr (.inr (bld (ad 1) (tn 1))))))), (ob 2, .inl (g 4, tn 2, .inr (.inr (.inr (.inr (bld (ad 2) (tn 2))))))), (ob 3, .inl (g 4, tn 3, .inr (.inr (.inr (.inr (bld (ad 3) (tn 3))))))), (ob 4, .inl (g 4, tn 4, .inr (.inr (.inr (.inr (bld (ad 4) (tn 4))))))), (q_1, .inl (g 0, tn 2 + 2, .inl wv))] : va_W) ++ simW (g 0) ad tn (simM tr od (uQu (uWo c5 i (fAft tr c4.1.2.1 (tn 2) c4.1.2.2.2.2.2.1 i)) i ((c5.1.2.2.2.2.1 i) - 1)))) H := hP
                                    replace hD : va_D A (([(sm, .inr (9, [.int c5.1.1, .int c5.1.2.1, .int c5.1.2.2.1, .int c5.2.1, .ref (ob 0), .ref (ob 1), .ref (ob 2), .ref (ob 3), .ref (ob 4)])), (ob 0, .inl (g 4, tn 0, .inr (.inr (.inr (.inr (bld (ad 0) (tn 0))))))), (ob 1, .inl (g 4, tn 1, .inr (.inr (.inr (.inr (bld (ad 1) (tn 1))))))), (ob 2, .inl (g 4, tn 2, .inr (.inr (.inr (.inr (bld (ad 2) (tn 2))))))), (ob 3, .inl (g 4, tn 3, .inr (.inr (.inr (.inr (bld (ad 3) (tn 3))))))), (ob 4, .inl (g 4, tn 4, .inr (.inr (.inr (.inr (bld (ad 4) (tn 4))))))), (q_1, .inl (g 0, tn 2 + 2, .inl wv))] : va_W) ++ simW (g 0) ad tn (simM tr od (uQu (uWo c5 i (fAft tr c4.1.2.1 (tn 2) c4.1.2.2.2.2.2.1 i)) i ((c5.1.2.2.2.2.1 i) - 1)))) := hD
                                    refine lv_iinc (v := nI (i + 1)) (lv' := [(3, .int (nI (i + 1))), (5, .int (fAf0 tr c4.1.2.1 (tn 2) c4.1.2.2.2.2.2.1 i)), (4, .ref (ad 2 i)), (0, .ref sm), (2, .ref q_1)]) hx hb dX11_pass_476 hl (k := 4) rfl (nI_1 i) (by decide) rfl (fun ls hl => ?_)
                                    refine lv_goto (tgt := 361) hx hb dX11_pass_479 (by decide) ?_
                                    exact ih_361  (i + 1) (uQu (uWo c5 i (fAft tr c4.1.2.1 (tn 2) c4.1.2.2.2.2.2.1 i)) i ((c5.1.2.2.2.2.1 i) - 1)) (by omega) (by omega) (by first | exact gn_a (by omega) hc5 c_451 | exact gn_b (by omega) hc5 (bear_lt (hC4.2.2.2.2.2 i (by omega)) (by omega) c_458) | exact gn_c (by omega) hc5 hq0 hq1 c_465 | exact gn_d (by omega) hc5 hq0 hq1 c_451 (fun z => c_458 (by rw [z]; decide)) c_465) _ _ (va_P.part hP [0, 1, 2, 3, 4, 5, 6] rfl) (hD.part [0, 1, 2, 3, 4, 5, 6] (by decide +kernel) rfl) hS ls (lv_sub hl [3, 4, 0] rfl)
                          · skip
                            refine lv_iinc (v := (((c4.1.2.2.2.2.2.1 i) + (c4.1.2.1 / 2)) - ((tr 5 i) / 4)) + 1) (lv' := [(5, .int ((((c4.1.2.2.2.2.2.1 i) + (c4.1.2.1 / 2)) - ((tr 5 i) / 4)) + 1)), (4, .ref (ad 2 i)), (0, .ref sm), (2, .ref q_1), (3, .int (nI i))]) hx hb dX11_pass_415 hl (k := 0) rfl rfl (by decide) rfl (fun ls hl => ?_)
                            have c412 := c_412
                            rw [hw5] at c412
                            have e5 : (((c4.1.2.2.2.2.2.1 i) + (c4.1.2.1 / 2)) - ((tr 5 i) / 4)) + 1 = fAf0 tr c4.1.2.1 (tn 2) c4.1.2.2.2.2.2.1 i := by first | exact af_t (by omega) ((wy_eq (by omega) (by omega)).trans (dt (Int32.not_le.mp c412))) | exact af_f (by omega) ((wy_eq (by omega) (by omega)).trans (df (Int32.not_lt.mpr c412)))
                            rw [e5] at hl
                            refine lv_aload hx hb dX11_pass_418 (lv_at hl 1 rfl) ?_
                            refine lv_iconst (v := 3) hx hb dX11_pass_420 (by decide) ?_
                            refine lv_iload hx hb dX11_pass_421 (lv_at hl 0 rfl) ?_
                            refine lv_if_ge (tgt := 430) hx hb dX11_pass_423 (by decide) (fun c_423 => ?_) (fun c_423 => ?_)
                            · skip
                              refine lv_iload hx hb dX11_pass_430 (lv_at hl 0 rfl) ?_
                              refine lv_bipush (v := 99) hx hb dX11_pass_432 (by decide) ?_
                              refine lv_icmp_le (tgt := 442) hx hb dX11_pass_434 (by decide) (fun c_434 => ?_) (fun c_434 => ?_)
                              · skip
                                refine lv_iload hx hb dX11_pass_442 (lv_at hl 0 rfl) ?_
                                refine k_topi (show (fAf0 tr c4.1.2.1 (tn 2) c4.1.2.2.2.2.2.1 i) = (fAft tr c4.1.2.1 (tn 2) c4.1.2.2.2.2.2.1 i) from (by first | exact aft_0 (Int32.not_le.mp c_423) | exact aft_9 c_434 | exact aft_n (Int32.not_lt.mpr c_423) c_434)) ?_
                                refine k_stS (j := 2) (i := i) (q := 3) hx hb hK hP hD hS (by decide) (by omega) (by decide) dX11_pass_444 (fun H locs hP7 hD7 hS7 => ?_)
                                clear hP hD hS
                                have hP := hP7
                                have hD := hD7
                                have hS := hS7
                                clear hP7 hD7 hS7
                                rw [sm_Wo] at hP hD
                                replace hP : va_P D CLS (([(sm, .inr (9, [.int c5.1.1, .int c5.1.2.1, .int c5.1.2.2.1, .int c5.2.1, .ref (ob 0), .ref (ob 1), .ref (ob 2), .ref (ob 3), .ref (ob 4)])), (ob 0, .inl (g 4, tn 0, .inr (.inr (.inr (.inr (bld (ad 0) (tn 0))))))), (ob 1, .inl (g 4, tn 1, .inr (.inr (.inr (.inr (bld (ad 1) (tn 1))))))), (ob 2, .inl (g 4, tn 2, .inr (.inr (.inr (.inr (bld (ad 2) (tn 2))))))), (ob 3, .inl (g 4, tn 3, .inr (.inr (.inr (.inr (bld (ad 3) (tn 3))))))), (ob 4, .inl (g 4, tn 4, .inr (.inr (.inr (.inr (bld (ad 4) (tn 4))))))), (q_1, .inl (g 0, tn 2 + 2, .inl wv))] : va_W) ++ simW (g 0) ad tn (simM tr od (uWo c5 i (fAft tr c4.1.2.1 (tn 2) c4.1.2.2.2.2.2.1 i)))) H := hP
                                replace hD : va_D A (([(sm, .inr (9, [.int c5.1.1, .int c5.1.2.1, .int c5.1.2.2.1, .int c5.2.1, .ref (ob 0), .ref (ob 1), .ref (ob 2), .ref (ob 3), .ref (ob 4)])), (ob 0, .inl (g 4, tn 0, .inr (.inr (.inr (.inr (bld (ad 0) (tn 0))))))), (ob 1, .inl (g 4, tn 1, .inr (.inr (.inr (.inr (bld (ad 1) (tn 1))))))), (ob 2, .inl (g 4, tn 2, .inr (.inr (.inr (.inr (bld (ad 2) (tn 2))))))), (ob 3, .inl (g 4, tn 3, .inr (.inr (.inr (.inr (bld (ad 3) (tn 3))))))), (ob 4, .inl (g 4, tn 4, .inr (.inr (.inr (.inr (bld (ad 4) (tn 4))))))), (q_1, .inl (g 0, tn 2 + 2, .inl wv))] : va_W) ++ simW (g 0) ad tn (simM tr od (uWo c5 i (fAft tr c4.1.2.1 (tn 2) c4.1.2.2.2.2.2.1 i)))) := hD
                                refine lv_aload hx hb dX11_pass_445 (lv_at hl 1 rfl) ?_
                                refine lv_iconst (v := 3) hx hb dX11_pass_447 (by decide) ?_
                                refine k_ldS (j := 2) (i := i) (q := 3) (v := (uWo c5 i (fAft tr c4.1.2.1 (tn 2) c4.1.2.2.2.2.2.1 i)).1.2.2.2.2.2.1 i) hx hb hK hP (by decide) (by omega) (by decide) rfl dX11_pass_448 ?_
                                refine k_topi (show ((uWo c5 i (fAft tr c4.1.2.1 (tn 2) c4.1.2.2.2.2.2.1 i)).1.2.2.2.2.2.1 i) = (fAft tr c4.1.2.1 (tn 2) c4.1.2.2.2.2.2.1 i) from pk_us) ?_
                                refine lv_bipush (v := 29) hx hb dX11_pass_449 (by decide) ?_
                                refine lv_icmp_le (tgt := 476) hx hb dX11_pass_451 (by decide) (fun c_451 => ?_) (fun c_451 => ?_)
                                · skip
                                  refine lv_iinc (v := nI (i + 1)) (lv' := [(3, .int (nI (i + 1))), (5, .int (fAf0 tr c4.1.2.1 (tn 2) c4.1.2.2.2.2.2.1 i)), (4, .ref (ad 2 i)), (0, .ref sm), (2, .ref q_1)]) hx hb dX11_pass_476 hl (k := 4) rfl (nI_1 i) (by decide) rfl (fun ls hl => ?_)
                                  refine lv_goto (tgt := 361) hx hb dX11_pass_479 (by decide) ?_
                                  exact ih_361  (i + 1) (uWo c5 i (fAft tr c4.1.2.1 (tn 2) c4.1.2.2.2.2.2.1 i)) (by omega) (by omega) (by first | exact gn_a (by omega) hc5 c_451 | exact gn_b (by omega) hc5 (bear_lt (hC4.2.2.2.2.2 i (by omega)) (by omega) c_458) | exact gn_c (by omega) hc5 hq0 hq1 c_465 | exact gn_d (by omega) hc5 hq0 hq1 c_451 (fun z => c_458 (by rw [z]; decide)) c_465) _ _ (va_P.part hP [0, 1, 2, 3, 4, 5, 6] rfl) (hD.part [0, 1, 2, 3, 4, 5, 6] (by decide +kernel) rfl) hS ls (lv_sub hl [3, 4, 0] rfl)
                                · skip
                                  refine lv_aload hx hb dX11_pass_454 (lv_at hl 1 rfl) ?_
                                  refine lv_iconst (v := 1) hx hb dX11_pass_456 (by decide) ?_
                                  refine k_ldS (j := 2) (i := i) (q := 1) (v := (uWo c5 i (fAft tr c4.1.2.1 (tn 2) c4.1.2.2.2.2.2.1 i)).1.2.2.2.1 i) hx hb hK hP (by decide) (by omega) (by decide) rfl dX11_pass_457 ?_
                                  refine k_topi (show ((uWo c5 i (fAft tr c4.1.2.1 (tn 2) c4.1.2.2.2.2.2.1 i)).1.2.2.2.1 i) = (c4.1.2.2.2.1 i) from (by show c5.1.2.2.2.1 i = _; rw [hcb])) ?_
                                  refine lv_if_lt (tgt := 476) hx hb dX11_pass_458 (by decide) (fun c_458 => ?_) (fun c_458 => ?_)
                                  · skip
                                    refine lv_iinc (v := nI (i + 1)) (lv' := [(3, .int (nI (i + 1))), (5, .int (fAf0 tr c4.1.2.1 (tn 2) c4.1.2.2.2.2.2.1 i)), (4, .ref (ad 2 i)), (0, .ref sm), (2, .ref q_1)]) hx hb dX11_pass_476 hl (k := 4) rfl (nI_1 i) (by decide) rfl (fun ls hl => ?_)
                                    refine lv_goto (tgt := 361) hx hb dX11_pass_479 (by decide) ?_
                                    exact ih_361  (i + 1) (uWo c5 i (fAft tr c4.1.2.1 (tn 2) c4.1.2.2.2.2.2.1 i)) (by omega) (by omega) (by first | exact gn_a (by omega) hc5 c_451 | exact gn_b (by omega) hc5 (bear_lt (hC4.2.2.2.2.2 i (by omega)) (by omega) c_458) | exact gn_c (by omega) hc5 hq0 hq1 c_465 | exact gn_d (by omega) hc5 hq0 hq1 c_451 (fun z => c_458 (by rw [z]; decide)) c_465) _ _ (va_P.part hP [0, 1, 2, 3, 4, 5, 6] rfl) (hD.part [0, 1, 2, 3, 4, 5, 6] (by decide +kernel) rfl) hS ls (lv_sub hl [3, 4, 0] rfl)
                                  · skip
                                    refine lv_aload hx hb dX11_pass_461 (lv_at hl 1 rfl) ?_
                                    refine lv_iconst (v := 2) hx hb dX11_pass_463 (by decide) ?_
                                    refine k_ldS (j := 2) (i := i) (q := 2) (v := (uWo c5 i (fAft tr c4.1.2.1 (tn 2) c4.1.2.2.2.2.2.1 i)).1.2.2.2.2.1 i) hx hb hK hP (by decide) (by omega) (by decide) rfl dX11_pass_464 ?_
                                    refine k_topi (show ((uWo c5 i (fAft tr c4.1.2.1 (tn 2) c4.1.2.2.2.2.2.1 i)).1.2.2.2.2.1 i) = (c5.1.2.2.2.2.1 i) from rfl) ?_
                                    refine lv_if_le (tgt := 476) hx hb dX11_pass_465 (by decide) (fun c_465 => ?_) (fun c_465 => ?_)
                                    · skip
                                      refine lv_iinc (v := nI (i + 1)) (lv' := [(3, .int (nI (i + 1))), (5, .int (fAf0 tr c4.1.2.1 (tn 2) c4.1.2.2.2.2.2.1 i)), (4, .ref (ad 2 i)), (0, .ref sm), (2, .ref q_1)]) hx hb dX11_pass_476 hl (k := 4) rfl (nI_1 i) (by decide) rfl (fun ls hl => ?_)
                                      refine lv_goto (tgt := 361) hx hb dX11_pass_479 (by decide) ?_
                                      exact ih_361  (i + 1) (uWo c5 i (fAft tr c4.1.2.1 (tn 2) c4.1.2.2.2.2.2.1 i)) (by omega) (by omega) (by first | exact gn_a (by omega) hc5 c_451 | exact gn_b (by omega) hc5 (bear_lt (hC4.2.2.2.2.2 i (by omega)) (by omega) c_458) | exact gn_c (by omega) hc5 hq0 hq1 c_465 | exact gn_d (by omega) hc5 hq0 hq1 c_451 (fun z => c_458 (by rw [z]; decide)) c_465) _ _ (va_P.part hP [0, 1, 2, 3, 4, 5, 6] rfl) (hD.part [0, 1, 2, 3, 4, 5, 6] (by decide +kernel) rfl) hS ls (lv_sub hl [3, 4, 0] rfl)
                                    · skip
                                      refine lv_aload hx hb dX11_pass_468 (lv_at hl 1 rfl) ?_
                                      refine lv_iconst (v := 2) hx hb dX11_pass_470 (by decide) ?_
                                      refine lv_dup2_11 hx hb dX11_pass_471 rfl rfl ?_
                                      refine k_ldS (j := 2) (i := i) (q := 2) (v := (uWo c5 i (fAft tr c4.1.2.1 (tn 2) c4.1.2.2.2.2.2.1 i)).1.2.2.2.2.1 i) hx hb hK hP (by decide) (by omega) (by decide) rfl dX11_pass_472 ?_
                                      refine k_topi (show ((uWo c5 i (fAft tr c4.1.2.1 (tn 2) c4.1.2.2.2.2.2.1 i)).1.2.2.2.2.1 i) = (c5.1.2.2.2.2.1 i) from rfl) ?_
                                      refine lv_iconst (v := 1) hx hb dX11_pass_473 (by decide) ?_
                                      refine lv_isub hx hb dX11_pass_474 ?_
                                      refine k_stS (j := 2) (i := i) (q := 2) hx hb hK hP hD hS (by decide) (by omega) (by decide) dX11_pass_475 (fun H locs hP7 hD7 hS7 => ?_)
                                      clear hP hD hS
                                      have hP := hP7
                                      have hD := hD7
                                      have hS := hS7
                                      clear hP7 hD7 hS7
                                      rw [sm_Qu] at hP hD
                                      replace hP : va_P D CLS (([(sm, .inr (9, [.int c5.1.1, .int c5.1.2.1, .int c5.1.2.2.1, .int c5.2.1, .ref (ob 0), .ref (ob 1), .ref (ob 2), .ref (ob 3), .ref (ob 4)])), (ob 0, .inl (g 4, tn 0, .inr (.inr (.inr (.inr (bld (ad 0) (tn 0))))))), (ob 1, .inl (g 4, tn 1, .inr (.inr (.inr (.inr (bld (ad 1) (tn 1))))))), (ob 2, .inl (g 4, tn 2, .inr (.inr (.inr (.inr (bld (ad 2) (tn 2))))))), (ob 3, .inl (g 4, tn 3, .inr (.inr (.inr (.inr (bld (ad 3) (tn 3))))))), (ob 4, .inl (g 4, tn 4, .inr (.inr (.inr (.inr (bld (ad 4) (tn 4))))))), (q_1, .inl (g 0, tn 2 + 2, .inl wv))] : va_W) ++ simW (g 0) ad tn (simM tr od (uQu (uWo c5 i (fAft tr c4.1.2.1 (tn 2) c4.1.2.2.2.2.2.1 i)) i ((c5.1.2.2.2.2.1 i) - 1)))) H := hP
                                      replace hD : va_D A (([(sm, .inr (9, [.int c5.1.1, .int c5.1.2.1, .int c5.1.2.2.1, .int c5.2.1, .ref (ob 0), .ref (ob 1), .ref (ob 2), .ref (ob 3), .ref (ob 4)])), (ob 0, .inl (g 4, tn 0, .inr (.inr (.inr (.inr (bld (ad 0) (tn 0))))))), (ob 1, .inl (g 4, tn 1, .inr (.inr (.inr (.inr (bld (ad 1) (tn 1))))))), (ob 2, .inl (g 4, tn 2, .inr (.inr (.inr (.inr (bld (ad 2) (tn 2))))))), (ob 3, .inl (g 4, tn 3, .inr (.inr (.inr (.inr (bld (ad 3) (tn 3))))))), (ob 4, .inl (g 4, tn 4, .inr (.inr (.inr (.inr (bld (ad 4) (tn 4))))))), (q_1, .inl (g 0, tn 2 + 2, .inl wv))] : va_W) ++ simW (g 0) ad tn (simM tr od (uQu (uWo c5 i (fAft tr c4.1.2.1 (tn 2) c4.1.2.2.2.2.2.1 i)) i ((c5.1.2.2.2.2.1 i) - 1)))) := hD
                                      refine lv_iinc (v := nI (i + 1)) (lv' := [(3, .int (nI (i + 1))), (5, .int (fAf0 tr c4.1.2.1 (tn 2) c4.1.2.2.2.2.2.1 i)), (4, .ref (ad 2 i)), (0, .ref sm), (2, .ref q_1)]) hx hb dX11_pass_476 hl (k := 4) rfl (nI_1 i) (by decide) rfl (fun ls hl => ?_)
                                      refine lv_goto (tgt := 361) hx hb dX11_pass_479 (by decide) ?_
                                      exact ih_361  (i + 1) (uQu (uWo c5 i (fAft tr c4.1.2.1 (tn 2) c4.1.2.2.2.2.2.1 i)) i ((c5.1.2.2.2.2.1 i) - 1)) (by omega) (by omega) (by first | exact gn_a (by omega) hc5 c_451 | exact gn_b (by omega) hc5 (bear_lt (hC4.2.2.2.2.2 i (by omega)) (by omega) c_458) | exact gn_c (by omega) hc5 hq0 hq1 c_465 | exact gn_d (by omega) hc5 hq0 hq1 c_451 (fun z => c_458 (by rw [z]; decide)) c_465) _ _ (va_P.part hP [0, 1, 2, 3, 4, 5, 6] rfl) (hD.part [0, 1, 2, 3, 4, 5, 6] (by decide +kernel) rfl) hS ls (lv_sub hl [3, 4, 0] rfl)
                              · skip
                                refine lv_bipush (v := 99) hx hb dX11_pass_437 (by decide) ?_
                                refine lv_goto (tgt := 444) hx hb dX11_pass_439 (by decide) ?_
                                refine k_topi (show (99 : Int32) = (fAft tr c4.1.2.1 (tn 2) c4.1.2.2.2.2.2.1 i) from (by first | exact aft_0 (Int32.not_le.mp c_423) | exact aft_9 c_434 | exact aft_n (Int32.not_lt.mpr c_423) c_434)) ?_
                                refine k_stS (j := 2) (i := i) (q := 3) hx hb hK hP hD hS (by decide) (by omega) (by decide) dX11_pass_444 (fun H locs hP7 hD7 hS7 => ?_)
                                clear hP hD hS
                                have hP := hP7
                                have hD := hD7
                                have hS := hS7
                                clear hP7 hD7 hS7
                                rw [sm_Wo] at hP hD
                                replace hP : va_P D CLS (([(sm, .inr (9, [.int c5.1.1, .int c5.1.2.1, .int c5.1.2.2.1, .int c5.2.1, .ref (ob 0), .ref (ob 1), .ref (ob 2), .ref (ob 3), .ref (ob 4)])), (ob 0, .inl (g 4, tn 0, .inr (.inr (.inr (.inr (bld (ad 0) (tn 0))))))), (ob 1, .inl (g 4, tn 1, .inr (.inr (.inr (.inr (bld (ad 1) (tn 1))))))), (ob 2, .inl (g 4, tn 2, .inr (.inr (.inr (.inr (bld (ad 2) (tn 2))))))), (ob 3, .inl (g 4, tn 3, .inr (.inr (.inr (.inr (bld (ad 3) (tn 3))))))), (ob 4, .inl (g 4, tn 4, .inr (.inr (.inr (.inr (bld (ad 4) (tn 4))))))), (q_1, .inl (g 0, tn 2 + 2, .inl wv))] : va_W) ++ simW (g 0) ad tn (simM tr od (uWo c5 i (fAft tr c4.1.2.1 (tn 2) c4.1.2.2.2.2.2.1 i)))) H := hP
                                replace hD : va_D A (([(sm, .inr (9, [.int c5.1.1, .int c5.1.2.1, .int c5.1.2.2.1, .int c5.2.1, .ref (ob 0), .ref (ob 1), .ref (ob 2), .ref (ob 3), .ref (ob 4)])), (ob 0, .inl (g 4, tn 0, .inr (.inr (.inr (.inr (bld (ad 0) (tn 0))))))), (ob 1, .inl (g 4, tn 1, .inr (.inr (.inr (.inr (bld (ad 1) (tn 1))))))), (ob 2, .inl (g 4, tn 2, .inr (.inr (.inr (.inr (bld (ad 2) (tn 2))))))), (ob 3, .inl (g 4, tn 3, .inr (.inr (.inr (.inr (bld (ad 3) (tn 3))))))), (ob 4, .inl (g 4, tn 4, .inr (.inr (.inr (.inr (bld (ad 4) (tn 4))))))), (q_1, .inl (g 0, tn 2 + 2, .inl wv))] : va_W) ++ simW (g 0) ad tn (simM tr od (uWo c5 i (fAft tr c4.1.2.1 (tn 2) c4.1.2.2.2.2.2.1 i)))) := hD
                                refine lv_aload hx hb dX11_pass_445 (lv_at hl 1 rfl) ?_
                                refine lv_iconst (v := 3) hx hb dX11_pass_447 (by decide) ?_
                                refine k_ldS (j := 2) (i := i) (q := 3) (v := (uWo c5 i (fAft tr c4.1.2.1 (tn 2) c4.1.2.2.2.2.2.1 i)).1.2.2.2.2.2.1 i) hx hb hK hP (by decide) (by omega) (by decide) rfl dX11_pass_448 ?_
                                refine k_topi (show ((uWo c5 i (fAft tr c4.1.2.1 (tn 2) c4.1.2.2.2.2.2.1 i)).1.2.2.2.2.2.1 i) = (fAft tr c4.1.2.1 (tn 2) c4.1.2.2.2.2.2.1 i) from pk_us) ?_
                                refine lv_bipush (v := 29) hx hb dX11_pass_449 (by decide) ?_
                                refine lv_icmp_le (tgt := 476) hx hb dX11_pass_451 (by decide) (fun c_451 => ?_) (fun c_451 => ?_)
                                · skip
                                  refine lv_iinc (v := nI (i + 1)) (lv' := [(3, .int (nI (i + 1))), (5, .int (fAf0 tr c4.1.2.1 (tn 2) c4.1.2.2.2.2.2.1 i)), (4, .ref (ad 2 i)), (0, .ref sm), (2, .ref q_1)]) hx hb dX11_pass_476 hl (k := 4) rfl (nI_1 i) (by decide) rfl (fun ls hl => ?_)
                                  refine lv_goto (tgt := 361) hx hb dX11_pass_479 (by decide) ?_
                                  exact ih_361  (i + 1) (uWo c5 i (fAft tr c4.1.2.1 (tn 2) c4.1.2.2.2.2.2.1 i)) (by omega) (by omega) (by first | exact gn_a (by omega) hc5 c_451 | exact gn_b (by omega) hc5 (bear_lt (hC4.2.2.2.2.2 i (by omega)) (by omega) c_458) | exact gn_c (by omega) hc5 hq0 hq1 c_465 | exact gn_d (by omega) hc5 hq0 hq1 c_451 (fun z => c_458 (by rw [z]; decide)) c_465) _ _ (va_P.part hP [0, 1, 2, 3, 4, 5, 6] rfl) (hD.part [0, 1, 2, 3, 4, 5, 6] (by decide +kernel) rfl) hS ls (lv_sub hl [3, 4, 0] rfl)
                                · skip
                                  refine lv_aload hx hb dX11_pass_454 (lv_at hl 1 rfl) ?_
                                  refine lv_iconst (v := 1) hx hb dX11_pass_456 (by decide) ?_
                                  refine k_ldS (j := 2) (i := i) (q := 1) (v := (uWo c5 i (fAft tr c4.1.2.1 (tn 2) c4.1.2.2.2.2.2.1 i)).1.2.2.2.1 i) hx hb hK hP (by decide) (by omega) (by decide) rfl dX11_pass_457 ?_
                                  refine k_topi (show ((uWo c5 i (fAft tr c4.1.2.1 (tn 2) c4.1.2.2.2.2.2.1 i)).1.2.2.2.1 i) = (c4.1.2.2.2.1 i) from (by show c5.1.2.2.2.1 i = _; rw [hcb])) ?_
                                  refine lv_if_lt (tgt := 476) hx hb dX11_pass_458 (by decide) (fun c_458 => ?_) (fun c_458 => ?_)
                                  · skip
                                    refine lv_iinc (v := nI (i + 1)) (lv' := [(3, .int (nI (i + 1))), (5, .int (fAf0 tr c4.1.2.1 (tn 2) c4.1.2.2.2.2.2.1 i)), (4, .ref (ad 2 i)), (0, .ref sm), (2, .ref q_1)]) hx hb dX11_pass_476 hl (k := 4) rfl (nI_1 i) (by decide) rfl (fun ls hl => ?_)
                                    refine lv_goto (tgt := 361) hx hb dX11_pass_479 (by decide) ?_
                                    exact ih_361  (i + 1) (uWo c5 i (fAft tr c4.1.2.1 (tn 2) c4.1.2.2.2.2.2.1 i)) (by omega) (by omega) (by first | exact gn_a (by omega) hc5 c_451 | exact gn_b (by omega) hc5 (bear_lt (hC4.2.2.2.2.2 i (by omega)) (by omega) c_458) | exact gn_c (by omega) hc5 hq0 hq1 c_465 | exact gn_d (by omega) hc5 hq0 hq1 c_451 (fun z => c_458 (by rw [z]; decide)) c_465) _ _ (va_P.part hP [0, 1, 2, 3, 4, 5, 6] rfl) (hD.part [0, 1, 2, 3, 4, 5, 6] (by decide +kernel) rfl) hS ls (lv_sub hl [3, 4, 0] rfl)
                                  · skip
                                    refine lv_aload hx hb dX11_pass_461 (lv_at hl 1 rfl) ?_
                                    refine lv_iconst (v := 2) hx hb dX11_pass_463 (by decide) ?_
                                    refine k_ldS (j := 2) (i := i) (q := 2) (v := (uWo c5 i (fAft tr c4.1.2.1 (tn 2) c4.1.2.2.2.2.2.1 i)).1.2.2.2.2.1 i) hx hb hK hP (by decide) (by omega) (by decide) rfl dX11_pass_464 ?_
                                    refine k_topi (show ((uWo c5 i (fAft tr c4.1.2.1 (tn 2) c4.1.2.2.2.2.2.1 i)).1.2.2.2.2.1 i) = (c5.1.2.2.2.2.1 i) from rfl) ?_
                                    refine lv_if_le (tgt := 476) hx hb dX11_pass_465 (by decide) (fun c_465 => ?_) (fun c_465 => ?_)
                                    · skip
                                      refine lv_iinc (v := nI (i + 1)) (lv' := [(3, .int (nI (i + 1))), (5, .int (fAf0 tr c4.1.2.1 (tn 2) c4.1.2.2.2.2.2.1 i)), (4, .ref (ad 2 i)), (0, .ref sm), (2, .ref q_1)]) hx hb dX11_pass_476 hl (k := 4) rfl (nI_1 i) (by decide) rfl (fun ls hl => ?_)
                                      refine lv_goto (tgt := 361) hx hb dX11_pass_479 (by decide) ?_
                                      exact ih_361  (i + 1) (uWo c5 i (fAft tr c4.1.2.1 (tn 2) c4.1.2.2.2.2.2.1 i)) (by omega) (by omega) (by first | exact gn_a (by omega) hc5 c_451 | exact gn_b (by omega) hc5 (bear_lt (hC4.2.2.2.2.2 i (by omega)) (by omega) c_458) | exact gn_c (by omega) hc5 hq0 hq1 c_465 | exact gn_d (by omega) hc5 hq0 hq1 c_451 (fun z => c_458 (by rw [z]; decide)) c_465) _ _ (va_P.part hP [0, 1, 2, 3, 4, 5, 6] rfl) (hD.part [0, 1, 2, 3, 4, 5, 6] (by decide +kernel) rfl) hS ls (lv_sub hl [3, 4, 0] rfl)
                                    · skip
                                      refine lv_aload hx hb dX11_pass_468 (lv_at hl 1 rfl) ?_
                                      refine lv_iconst (v := 2) hx hb dX11_pass_470 (by decide) ?_
                                      refine lv_dup2_11 hx hb dX11_pass_471 rfl rfl ?_
                                      refine k_ldS (j := 2) (i := i) (q := 2) (v := (uWo c5 i (fAft tr c4.1.2.1 (tn 2) c4.1.2.2.2.2.2.1 i)).1.2.2.2.2.1 i) hx hb hK hP (by decide) (by omega) (by decide) rfl dX11_pass_472 ?_
                                      refine k_topi (show ((uWo c5 i (fAft tr c4.1.2.1 (tn 2) c4.1.2.2.2.2.2.1 i)).1.2.2.2.2.1 i) = (c5.1.2.2.2.2.1 i) from rfl) ?_
                                      refine lv_iconst (v := 1) hx hb dX11_pass_473 (by decide) ?_
                                      refine lv_isub hx hb dX11_pass_474 ?_
                                      refine k_stS (j := 2) (i := i) (q := 2) hx hb hK hP hD hS (by decide) (by omega) (by decide) dX11_pass_475 (fun H locs hP7 hD7 hS7 => ?_)
                                      clear hP hD hS
                                      have hP := hP7
                                      have hD := hD7
                                      have hS := hS7
                                      clear hP7 hD7 hS7
                                      rw [sm_Qu] at hP hD
                                      replace hP : va_P D CLS (([(sm, .inr (9, [.int c5.1.1, .int c5.1.2.1, .int c5.1.2.2.1, .int c5.2.1, .ref (ob 0), .ref (ob 1), .ref (ob 2), .ref (ob 3), .ref (ob 4)])), (ob 0, .inl (g 4, tn 0, .inr (.inr (.inr (.inr (bld (ad 0) (tn 0))))))), (ob 1, .inl (g 4, tn 1, .inr (.inr (.inr (.inr (bld (ad 1) (tn 1))))))), (ob 2, .inl (g 4, tn 2, .inr (.inr (.inr (.inr (bld (ad 2) (tn 2))))))), (ob 3, .inl (g 4, tn 3, .inr (.inr (.inr (.inr (bld (ad 3) (tn 3))))))), (ob 4, .inl (g 4, tn 4, .inr (.inr (.inr (.inr (bld (ad 4) (tn 4))))))), (q_1, .inl (g 0, tn 2 + 2, .inl wv))] : va_W) ++ simW (g 0) ad tn (simM tr od (uQu (uWo c5 i (fAft tr c4.1.2.1 (tn 2) c4.1.2.2.2.2.2.1 i)) i ((c5.1.2.2.2.2.1 i) - 1)))) H := hP
                                      replace hD : va_D A (([(sm, .inr (9, [.int c5.1.1, .int c5.1.2.1, .int c5.1.2.2.1, .int c5.2.1, .ref (ob 0), .ref (ob 1), .ref (ob 2), .ref (ob 3), .ref (ob 4)])), (ob 0, .inl (g 4, tn 0, .inr (.inr (.inr (.inr (bld (ad 0) (tn 0))))))), (ob 1, .inl (g 4, tn 1, .inr (.inr (.inr (.inr (bld (ad 1) (tn 1))))))), (ob 2, .inl (g 4, tn 2, .inr (.inr (.inr (.inr (bld (ad 2) (tn 2))))))), (ob 3, .inl (g 4, tn 3, .inr (.inr (.inr (.inr (bld (ad 3) (tn 3))))))), (ob 4, .inl (g 4, tn 4, .inr (.inr (.inr (.inr (bld (ad 4) (tn 4))))))), (q_1, .inl (g 0, tn 2 + 2, .inl wv))] : va_W) ++ simW (g 0) ad tn (simM tr od (uQu (uWo c5 i (fAft tr c4.1.2.1 (tn 2) c4.1.2.2.2.2.2.1 i)) i ((c5.1.2.2.2.2.1 i) - 1)))) := hD
                                      refine lv_iinc (v := nI (i + 1)) (lv' := [(3, .int (nI (i + 1))), (5, .int (fAf0 tr c4.1.2.1 (tn 2) c4.1.2.2.2.2.2.1 i)), (4, .ref (ad 2 i)), (0, .ref sm), (2, .ref q_1)]) hx hb dX11_pass_476 hl (k := 4) rfl (nI_1 i) (by decide) rfl (fun ls hl => ?_)
                                      refine lv_goto (tgt := 361) hx hb dX11_pass_479 (by decide) ?_
                                      exact ih_361  (i + 1) (uQu (uWo c5 i (fAft tr c4.1.2.1 (tn 2) c4.1.2.2.2.2.2.1 i)) i ((c5.1.2.2.2.2.1 i) - 1)) (by omega) (by omega) (by first | exact gn_a (by omega) hc5 c_451 | exact gn_b (by omega) hc5 (bear_lt (hC4.2.2.2.2.2 i (by omega)) (by omega) c_458) | exact gn_c (by omega) hc5 hq0 hq1 c_465 | exact gn_d (by omega) hc5 hq0 hq1 c_451 (fun z => c_458 (by rw [z]; decide)) c_465) _ _ (va_P.part hP [0, 1, 2, 3, 4, 5, 6] rfl) (hD.part [0, 1, 2, 3, 4, 5, 6] (by decide +kernel) rfl) hS ls (lv_sub hl [3, 4, 0] rfl)
                            · skip
                              refine lv_iconst (v := 0) hx hb dX11_pass_426 (by decide) ?_
                              refine lv_goto (tgt := 444) hx hb dX11_pass_427 (by decide) ?_
                              refine k_topi (show (0 : Int32) = (fAft tr c4.1.2.1 (tn 2) c4.1.2.2.2.2.2.1 i) from (by first | exact aft_0 (Int32.not_le.mp c_423) | exact aft_9 c_434 | exact aft_n (Int32.not_lt.mpr c_423) c_434)) ?_
                              refine k_stS (j := 2) (i := i) (q := 3) hx hb hK hP hD hS (by decide) (by omega) (by decide) dX11_pass_444 (fun H locs hP7 hD7 hS7 => ?_)
                              clear hP hD hS
                              have hP := hP7
                              have hD := hD7
                              have hS := hS7
                              clear hP7 hD7 hS7
                              rw [sm_Wo] at hP hD
                              replace hP : va_P D CLS (([(sm, .inr (9, [.int c5.1.1, .int c5.1.2.1, .int c5.1.2.2.1, .int c5.2.1, .ref (ob 0), .ref (ob 1), .ref (ob 2), .ref (ob 3), .ref (ob 4)])), (ob 0, .inl (g 4, tn 0, .inr (.inr (.inr (.inr (bld (ad 0) (tn 0))))))), (ob 1, .inl (g 4, tn 1, .inr (.inr (.inr (.inr (bld (ad 1) (tn 1))))))), (ob 2, .inl (g 4, tn 2, .inr (.inr (.inr (.inr (bld (ad 2) (tn 2))))))), (ob 3, .inl (g 4, tn 3, .inr (.inr (.inr (.inr (bld (ad 3) (tn 3))))))), (ob 4, .inl (g 4, tn 4, .inr (.inr (.inr (.inr (bld (ad 4) (tn 4))))))), (q_1, .inl (g 0, tn 2 + 2, .inl wv))] : va_W) ++ simW (g 0) ad tn (simM tr od (uWo c5 i (fAft tr c4.1.2.1 (tn 2) c4.1.2.2.2.2.2.1 i)))) H := hP
                              replace hD : va_D A (([(sm, .inr (9, [.int c5.1.1, .int c5.1.2.1, .int c5.1.2.2.1, .int c5.2.1, .ref (ob 0), .ref (ob 1), .ref (ob 2), .ref (ob 3), .ref (ob 4)])), (ob 0, .inl (g 4, tn 0, .inr (.inr (.inr (.inr (bld (ad 0) (tn 0))))))), (ob 1, .inl (g 4, tn 1, .inr (.inr (.inr (.inr (bld (ad 1) (tn 1))))))), (ob 2, .inl (g 4, tn 2, .inr (.inr (.inr (.inr (bld (ad 2) (tn 2))))))), (ob 3, .inl (g 4, tn 3, .inr (.inr (.inr (.inr (bld (ad 3) (tn 3))))))), (ob 4, .inl (g 4, tn 4, .inr (.inr (.inr (.inr (bld (ad 4) (tn 4))))))), (q_1, .inl (g 0, tn 2 + 2, .inl wv))] : va_W) ++ simW (g 0) ad tn (simM tr od (uWo c5 i (fAft tr c4.1.2.1 (tn 2) c4.1.2.2.2.2.2.1 i)))) := hD
                              refine lv_aload hx hb dX11_pass_445 (lv_at hl 1 rfl) ?_
                              refine lv_iconst (v := 3) hx hb dX11_pass_447 (by decide) ?_
                              refine k_ldS (j := 2) (i := i) (q := 3) (v := (uWo c5 i (fAft tr c4.1.2.1 (tn 2) c4.1.2.2.2.2.2.1 i)).1.2.2.2.2.2.1 i) hx hb hK hP (by decide) (by omega) (by decide) rfl dX11_pass_448 ?_
                              refine k_topi (show ((uWo c5 i (fAft tr c4.1.2.1 (tn 2) c4.1.2.2.2.2.2.1 i)).1.2.2.2.2.2.1 i) = (fAft tr c4.1.2.1 (tn 2) c4.1.2.2.2.2.2.1 i) from pk_us) ?_
                              refine lv_bipush (v := 29) hx hb dX11_pass_449 (by decide) ?_
                              refine lv_icmp_le (tgt := 476) hx hb dX11_pass_451 (by decide) (fun c_451 => ?_) (fun c_451 => ?_)
                              · skip
                                refine lv_iinc (v := nI (i + 1)) (lv' := [(3, .int (nI (i + 1))), (5, .int (fAf0 tr c4.1.2.1 (tn 2) c4.1.2.2.2.2.2.1 i)), (4, .ref (ad 2 i)), (0, .ref sm), (2, .ref q_1)]) hx hb dX11_pass_476 hl (k := 4) rfl (nI_1 i) (by decide) rfl (fun ls hl => ?_)
                                refine lv_goto (tgt := 361) hx hb dX11_pass_479 (by decide) ?_
                                exact ih_361  (i + 1) (uWo c5 i (fAft tr c4.1.2.1 (tn 2) c4.1.2.2.2.2.2.1 i)) (by omega) (by omega) (by first | exact gn_a (by omega) hc5 c_451 | exact gn_b (by omega) hc5 (bear_lt (hC4.2.2.2.2.2 i (by omega)) (by omega) c_458) | exact gn_c (by omega) hc5 hq0 hq1 c_465 | exact gn_d (by omega) hc5 hq0 hq1 c_451 (fun z => c_458 (by rw [z]; decide)) c_465) _ _ (va_P.part hP [0, 1, 2, 3, 4, 5, 6] rfl) (hD.part [0, 1, 2, 3, 4, 5, 6] (by decide +kernel) rfl) hS ls (lv_sub hl [3, 4, 0] rfl)
                              · skip
                                refine lv_aload hx hb dX11_pass_454 (lv_at hl 1 rfl) ?_
                                refine lv_iconst (v := 1) hx hb dX11_pass_456 (by decide) ?_
                                refine k_ldS (j := 2) (i := i) (q := 1) (v := (uWo c5 i (fAft tr c4.1.2.1 (tn 2) c4.1.2.2.2.2.2.1 i)).1.2.2.2.1 i) hx hb hK hP (by decide) (by omega) (by decide) rfl dX11_pass_457 ?_
                                refine k_topi (show ((uWo c5 i (fAft tr c4.1.2.1 (tn 2) c4.1.2.2.2.2.2.1 i)).1.2.2.2.1 i) = (c4.1.2.2.2.1 i) from (by show c5.1.2.2.2.1 i = _; rw [hcb])) ?_
                                refine lv_if_lt (tgt := 476) hx hb dX11_pass_458 (by decide) (fun c_458 => ?_) (fun c_458 => ?_)
                                · skip
                                  refine lv_iinc (v := nI (i + 1)) (lv' := [(3, .int (nI (i + 1))), (5, .int (fAf0 tr c4.1.2.1 (tn 2) c4.1.2.2.2.2.2.1 i)), (4, .ref (ad 2 i)), (0, .ref sm), (2, .ref q_1)]) hx hb dX11_pass_476 hl (k := 4) rfl (nI_1 i) (by decide) rfl (fun ls hl => ?_)
                                  refine lv_goto (tgt := 361) hx hb dX11_pass_479 (by decide) ?_
                                  exact ih_361  (i + 1) (uWo c5 i (fAft tr c4.1.2.1 (tn 2) c4.1.2.2.2.2.2.1 i)) (by omega) (by omega) (by first | exact gn_a (by omega) hc5 c_451 | exact gn_b (by omega) hc5 (bear_lt (hC4.2.2.2.2.2 i (by omega)) (by omega) c_458) | exact gn_c (by omega) hc5 hq0 hq1 c_465 | exact gn_d (by omega) hc5 hq0 hq1 c_451 (fun z => c_458 (by rw [z]; decide)) c_465) _ _ (va_P.part hP [0, 1, 2, 3, 4, 5, 6] rfl) (hD.part [0, 1, 2, 3, 4, 5, 6] (by decide +kernel) rfl) hS ls (lv_sub hl [3, 4, 0] rfl)
                                · skip
                                  refine lv_aload hx hb dX11_pass_461 (lv_at hl 1 rfl) ?_
                                  refine lv_iconst (v := 2) hx hb dX11_pass_463 (by decide) ?_
                                  refine k_ldS (j := 2) (i := i) (q := 2) (v := (uWo c5 i (fAft tr c4.1.2.1 (tn 2) c4.1.2.2.2.2.2.1 i)).1.2.2.2.2.1 i) hx hb hK hP (by decide) (by omega) (by decide) rfl dX11_pass_464 ?_
                                  refine k_topi (show ((uWo c5 i (fAft tr c4.1.2.1 (tn 2) c4.1.2.2.2.2.2.1 i)).1.2.2.2.2.1 i) = (c5.1.2.2.2.2.1 i) from rfl) ?_
                                  refine lv_if_le (tgt := 476) hx hb dX11_pass_465 (by decide) (fun c_465 => ?_) (fun c_465 => ?_)
                                  · skip
                                    refine lv_iinc (v := nI (i + 1)) (lv' := [(3, .int (nI (i + 1))), (5, .int (fAf0 tr c4.1.2.1 (tn 2) c4.1.2.2.2.2.2.1 i)), (4, .ref (ad 2 i)), (0, .ref sm), (2, .ref q_1)]) hx hb dX11_pass_476 hl (k := 4) rfl (nI_1 i) (by decide) rfl (fun ls hl => ?_)
                                    refine lv_goto (tgt := 361) hx hb dX11_pass_479 (by decide) ?_
                                    exact ih_361  (i + 1) (uWo c5 i (fAft tr c4.1.2.1 (tn 2) c4.1.2.2.2.2.2.1 i)) (by omega) (by omega) (by first | exact gn_a (by omega) hc5 c_451 | exact gn_b (by omega) hc5 (bear_lt (hC4.2.2.2.2.2 i (by omega)) (by omega) c_458) | exact gn_c (by omega) hc5 hq0 hq1 c_465 | exact gn_d (by omega) hc5 hq0 hq1 c_451 (fun z => c_458 (by rw [z]; decide)) c_465) _ _ (va_P.part hP [0, 1, 2, 3, 4, 5, 6] rfl) (hD.part [0, 1, 2, 3, 4, 5, 6] (by decide +kernel) rfl) hS ls (lv_sub hl [3, 4, 0] rfl)
                                  · skip
                                    refine lv_aload hx hb dX11_pass_468 (lv_at hl 1 rfl) ?_
                                    refine lv_iconst (v := 2) hx hb dX11_pass_470 (by decide) ?_
                                    refine lv_dup2_11 hx hb dX11_pass_471 rfl rfl ?_
                                    refine k_ldS (j := 2) (i := i) (q := 2) (v := (uWo c5 i (fAft tr c4.1.2.1 (tn 2) c4.1.2.2.2.2.2.1 i)).1.2.2.2.2.1 i) hx hb hK hP (by decide) (by omega) (by decide) rfl dX11_pass_472 ?_
                                    refine k_topi (show ((uWo c5 i (fAft tr c4.1.2.1 (tn 2) c4.1.2.2.2.2.2.1 i)).1.2.2.2.2.1 i) = (c5.1.2.2.2.2.1 i) from rfl) ?_
                                    refine lv_iconst (v := 1) hx hb dX11_pass_473 (by decide) ?_
                                    refine lv_isub hx hb dX11_pass_474 ?_
                                    refine k_stS (j := 2) (i := i) (q := 2) hx hb hK hP hD hS (by decide) (by omega) (by decide) dX11_pass_475 (fun H locs hP7 hD7 hS7 => ?_)
                                    clear hP hD hS
                                    have hP := hP7
                                    have hD := hD7
                                    have hS := hS7
                                    clear hP7 hD7 hS7
                                    rw [sm_Qu] at hP hD
                                    replace hP : va_P D CLS (([(sm, .inr (9, [.int c5.1.1, .int c5.1.2.1, .int c5.1.2.2.1, .int c5.2.1, .ref (ob 0), .ref (ob 1), .ref (ob 2), .ref (ob 3), .ref (ob 4)])), (ob 0, .inl (g 4, tn 0, .inr (.inr (.inr (.inr (bld (ad 0) (tn 0))))))), (ob 1, .inl (g 4, tn 1, .inr (.inr (.inr (.inr (bld (ad 1) (tn 1))))))), (ob 2, .inl (g 4, tn 2, .inr (.inr (.inr (.inr (bld (ad 2) (tn 2))))))), (ob 3, .inl (g 4, tn 3, .inr (.inr (.inr (.inr (bld (ad 3) (tn 3))))))), (ob 4, .inl (g 4, tn 4, .inr (.inr (.inr (.inr (bld (ad 4) (tn 4))))))), (q_1, .inl (g 0, tn 2 + 2, .inl wv))] : va_W) ++ simW (g 0) ad tn (simM tr od (uQu (uWo c5 i (fAft tr c4.1.2.1 (tn 2) c4.1.2.2.2.2.2.1 i)) i ((c5.1.2.2.2.2.1 i) - 1)))) H := hP
                                    replace hD : va_D A (([(sm, .inr (9, [.int c5.1.1, .int c5.1.2.1, .int c5.1.2.2.1, .int c5.2.1, .ref (ob 0), .ref (ob 1), .ref (ob 2), .ref (ob 3), .ref (ob 4)])), (ob 0, .inl (g 4, tn 0, .inr (.inr (.inr (.inr (bld (ad 0) (tn 0))))))), (ob 1, .inl (g 4, tn 1, .inr (.inr (.inr (.inr (bld (ad 1) (tn 1))))))), (ob 2, .inl (g 4, tn 2, .inr (.inr (.inr (.inr (bld (ad 2) (tn 2))))))), (ob 3, .inl (g 4, tn 3, .inr (.inr (.inr (.inr (bld (ad 3) (tn 3))))))), (ob 4, .inl (g 4, tn 4, .inr (.inr (.inr (.inr (bld (ad 4) (tn 4))))))), (q_1, .inl (g 0, tn 2 + 2, .inl wv))] : va_W) ++ simW (g 0) ad tn (simM tr od (uQu (uWo c5 i (fAft tr c4.1.2.1 (tn 2) c4.1.2.2.2.2.2.1 i)) i ((c5.1.2.2.2.2.1 i) - 1)))) := hD
                                    refine lv_iinc (v := nI (i + 1)) (lv' := [(3, .int (nI (i + 1))), (5, .int (fAf0 tr c4.1.2.1 (tn 2) c4.1.2.2.2.2.2.1 i)), (4, .ref (ad 2 i)), (0, .ref sm), (2, .ref q_1)]) hx hb dX11_pass_476 hl (k := 4) rfl (nI_1 i) (by decide) rfl (fun ls hl => ?_)
                                    refine lv_goto (tgt := 361) hx hb dX11_pass_479 (by decide) ?_
                                    exact ih_361  (i + 1) (uQu (uWo c5 i (fAft tr c4.1.2.1 (tn 2) c4.1.2.2.2.2.2.1 i)) i ((c5.1.2.2.2.2.1 i) - 1)) (by omega) (by omega) (by first | exact gn_a (by omega) hc5 c_451 | exact gn_b (by omega) hc5 (bear_lt (hC4.2.2.2.2.2 i (by omega)) (by omega) c_458) | exact gn_c (by omega) hc5 hq0 hq1 c_465 | exact gn_d (by omega) hc5 hq0 hq1 c_451 (fun z => c_458 (by rw [z]; decide)) c_465) _ _ (va_P.part hP [0, 1, 2, 3, 4, 5, 6] rfl) (hD.part [0, 1, 2, 3, 4, 5, 6] (by decide +kernel) rfl) hS ls (lv_sub hl [3, 4, 0] rfl)
                    exact loop_361 (tn 2 - 0 + 1) 0 c4 (by omega) (Nat.zero_le _) gnI_0 _ _ (va_P.part hP [0, 1, 2, 3, 4, 5, 6] rfl) (hD.part [0, 1, 2, 3, 4, 5, 6] (by decide +kernel) rfl) hS ls (lv_sub hl [1, 2, 0] rfl)
                  · skip
                    have c_295 : ¬ (tn 2) ≤ i := fun h => c_295 ((nI_leI (a := (tn 2)) (b := i) (by omega) (by omega)).mpr h)
                    have ew : c4.1.2.2.2.2.2.1 i = c3.1.2.2.2.2.2.1 i := by rw [hc4, fRsI_w.1]
                    refine lv_aload_n hx hb dX11_pass_298 rfl (lv_at hl 1 rfl) ?_
                    refine lv_iload_n hx hb dX11_pass_299 rfl (lv_at hl 2 rfl) ?_
                    refine lv_iconst (v := 1) hx hb dX11_pass_300 (by decide) ?_
                    refine k_inc hx hb dX11_pass_301 ?_
                    refine lv_aload_n hx hb dX11_pass_302 rfl (lv_at hl 0 rfl) ?_
                    refine va_get (D := D) (ci := 9) (v := .ref (ob 2)) (C := RX11) (T := TX11) (N := 9) hx hb hts in_X11 hown hK hP 0 rfl rfl 6 (by decide) (hts _ w_1219) (fun _ h9 => h9) rfl dX11_pass_303 ?_
                    refine lv_iload_n hx hb dX11_pass_306 rfl (lv_at hl 2 rfl) ?_
                    refine k_aldB (i := i) hx hb hK hP 3 rfl (by omega) (Nat.le_refl _) (by omega) dX11_pass_307 ?_
                    refine lv_iconst (v := 3) hx hb dX11_pass_308 (by decide) ?_
                    refine k_ldS (j := 2) (i := i) (q := 3) (v := c4.1.2.2.2.2.2.1 i) hx hb hK hP (by decide) (by omega) (by decide) rfl dX11_pass_309 ?_
                    refine k_iastN hx hb hK hP hD hS 6 0 rfl rfl (by omega) (by first | decide | omega) dX11_pass_310 (fun H locs hP7 hD7 hS7 => ?_)
                    clear hP hD hS
                    have hP := hP7
                    have hD := hD7
                    have hS := hS7
                    clear hP7 hD7 hS7
                    replace hP : va_P D CLS (([(sm, .inr (9, [.int c4.1.1, .int c4.1.2.1, .int c4.1.2.2.1, .int c4.2.1, .ref (ob 0), .ref (ob 1), .ref (ob 2), .ref (ob 3), .ref (ob 4)])), (ob 0, .inl (g 4, tn 0, .inr (.inr (.inr (.inr (bld (ad 0) (tn 0))))))), (ob 1, .inl (g 4, tn 1, .inr (.inr (.inr (.inr (bld (ad 1) (tn 1))))))), (ob 2, .inl (g 4, tn 2, .inr (.inr (.inr (.inr (bld (ad 2) (tn 2))))))), (ob 3, .inl (g 4, tn 3, .inr (.inr (.inr (.inr (bld (ad 3) (tn 3))))))), (ob 4, .inl (g 4, tn 4, .inr (.inr (.inr (.inr (bld (ad 4) (tn 4))))))), (q_1, .inl (g 0, tn 2 + 2, .inl (upd wv (i + 1) (c4.1.2.2.2.2.2.1 i))))] : va_W) ++ simW (g 0) ad tn (simM tr od c4)) H := hP
                    replace hD : va_D A (([(sm, .inr (9, [.int c4.1.1, .int c4.1.2.1, .int c4.1.2.2.1, .int c4.2.1, .ref (ob 0), .ref (ob 1), .ref (ob 2), .ref (ob 3), .ref (ob 4)])), (ob 0, .inl (g 4, tn 0, .inr (.inr (.inr (.inr (bld (ad 0) (tn 0))))))), (ob 1, .inl (g 4, tn 1, .inr (.inr (.inr (.inr (bld (ad 1) (tn 1))))))), (ob 2, .inl (g 4, tn 2, .inr (.inr (.inr (.inr (bld (ad 2) (tn 2))))))), (ob 3, .inl (g 4, tn 3, .inr (.inr (.inr (.inr (bld (ad 3) (tn 3))))))), (ob 4, .inl (g 4, tn 4, .inr (.inr (.inr (.inr (bld (ad 4) (tn 4))))))), (q_1, .inl (g 0, tn 2 + 2, .inl (upd wv (i + 1) (c4.1.2.2.2.2.2.1 i))))] : va_W) ++ simW (g 0) ad tn (simM tr od c4)) := hD
                    refine lv_aload_n hx hb dX11_pass_311 rfl (lv_at hl 0 rfl) ?_
                    refine va_get (D := D) (ci := 9) (v := .ref (ob 2)) (C := RX11) (T := TX11) (N := 9) hx hb hts in_X11 hown hK hP 0 rfl rfl 6 (by decide) (hts _ w_1219) (fun _ h9 => h9) rfl dX11_pass_312 ?_
                    refine lv_iload_n hx hb dX11_pass_315 rfl (lv_at hl 2 rfl) ?_
                    refine k_aldB (i := i) hx hb hK hP 3 rfl (by omega) (Nat.le_refl _) (by omega) dX11_pass_316 ?_
                    refine lv_iconst (v := 4) hx hb dX11_pass_317 (by decide) ?_
                    refine k_ldS (j := 2) (i := i) (q := 4) (v := c4.1.2.2.2.2.2.2 i) hx hb hK hP (by decide) (by omega) (by decide) rfl dX11_pass_318 ?_
                    refine lv_bipush (v := 20) hx hb dX11_pass_319 (by decide) ?_
                    refine lv_icmp_ge (tgt := 353) hx hb dX11_pass_321 (by decide) (fun c_321 => ?_) (fun c_321 => ?_)
                    · skip
                      refine lv_iinc (v := nI (i + 1)) (lv' := [(3, .int (nI (i + 1))), (0, .ref sm), (2, .ref q_1)]) hx hb dX11_pass_353 hl (k := 2) rfl (nI_1 i) (by decide) rfl (fun ls hl => ?_)
                      refine lv_goto (tgt := 289) hx hb dX11_pass_356 (by decide) ?_
                      exact ih_289  (i + 1) c4 (upd wv (i + 1) (c4.1.2.2.2.2.2.1 i)) (by omega) (by omega) (by first | exact rs_a (by omega) hC3 (by omega) hc4 (Int32.not_lt.mpr c_321) | exact rs_b hc4 c_329 c_338 | exact rs_c (by omega) hC3 (by omega) hc4 (Int32.not_le.mp c_321) (Or.inl c_329) | exact rs_c (by omega) hC3 (by omega) hc4 (Int32.not_le.mp c_321) (Or.inr c_338)) (by rw [ew, hw4]; exact fWv_s) _ _ (va_P.part hP [0, 1, 2, 3, 4, 5, 6] rfl) (hD.part [0, 1, 2, 3, 4, 5, 6] (by decide +kernel) rfl) hS ls (lv_sub hl [1, 2, 0] rfl)
                    · skip
                      refine lv_aload_n hx hb dX11_pass_324 rfl (lv_at hl 0 rfl) ?_
                      refine va_get (D := D) (ci := 9) (v := .int c4.1.2.1) (C := RX11) (T := TX11) (N := 9) hx hb hts in_X11 hown hK hP 0 rfl rfl 1 (by decide) (hts _ w_1209) (fun _ h9 => h9) rfl dX11_pass_325 ?_
                      refine lv_iconst (v := 3) hx hb dX11_pass_328 (by decide) ?_
                      refine lv_icmp_gt (tgt := 341) hx hb dX11_pass_329 (by decide) (fun c_329 => ?_) (fun c_329 => ?_)
                      · skip
                        refine lv_aload_n hx hb dX11_pass_341 rfl (lv_at hl 0 rfl) ?_
                        refine va_get (D := D) (ci := 9) (v := .ref (ob 2)) (C := RX11) (T := TX11) (N := 9) hx hb hts in_X11 hown hK hP 0 rfl rfl 6 (by decide) (hts _ w_1219) (fun _ h9 => h9) rfl dX11_pass_342 ?_
                        refine lv_iload_n hx hb dX11_pass_345 rfl (lv_at hl 2 rfl) ?_
                        refine k_aldB (i := i) hx hb hK hP 3 rfl (by omega) (Nat.le_refl _) (by omega) dX11_pass_346 ?_
                        refine lv_iconst (v := 4) hx hb dX11_pass_347 (by decide) ?_
                        refine lv_dup2_11 hx hb dX11_pass_348 rfl rfl ?_
                        refine k_ldS (j := 2) (i := i) (q := 4) (v := c4.1.2.2.2.2.2.2 i) hx hb hK hP (by decide) (by omega) (by decide) rfl dX11_pass_349 ?_
                        refine lv_iconst (v := 1) hx hb dX11_pass_350 (by decide) ?_
                        refine lv_iadd hx hb dX11_pass_351 ?_
                        refine k_stS (j := 2) (i := i) (q := 4) hx hb hK hP hD hS (by decide) (by omega) (by decide) dX11_pass_352 (fun H locs hP7 hD7 hS7 => ?_)
                        clear hP hD hS
                        have hP := hP7
                        have hD := hD7
                        have hS := hS7
                        clear hP7 hD7 hS7
                        rw [sm_Ru] at hP hD
                        replace hP : va_P D CLS (([(sm, .inr (9, [.int c4.1.1, .int c4.1.2.1, .int c4.1.2.2.1, .int c4.2.1, .ref (ob 0), .ref (ob 1), .ref (ob 2), .ref (ob 3), .ref (ob 4)])), (ob 0, .inl (g 4, tn 0, .inr (.inr (.inr (.inr (bld (ad 0) (tn 0))))))), (ob 1, .inl (g 4, tn 1, .inr (.inr (.inr (.inr (bld (ad 1) (tn 1))))))), (ob 2, .inl (g 4, tn 2, .inr (.inr (.inr (.inr (bld (ad 2) (tn 2))))))), (ob 3, .inl (g 4, tn 3, .inr (.inr (.inr (.inr (bld (ad 3) (tn 3))))))), (ob 4, .inl (g 4, tn 4, .inr (.inr (.inr (.inr (bld (ad 4) (tn 4))))))), (q_1, .inl (g 0, tn 2 + 2, .inl (upd wv (i + 1) (c4.1.2.2.2.2.2.1 i))))] : va_W) ++ simW (g 0) ad tn (simM tr od (uRu c4 i ((c4.1.2.2.2.2.2.2 i) + 1)))) H := hP
                        replace hD : va_D A (([(sm, .inr (9, [.int c4.1.1, .int c4.1.2.1, .int c4.1.2.2.1, .int c4.2.1, .ref (ob 0), .ref (ob 1), .ref (ob 2), .ref (ob 3), .ref (ob 4)])), (ob 0, .inl (g 4, tn 0, .inr (.inr (.inr (.inr (bld (ad 0) (tn 0))))))), (ob 1, .inl (g 4, tn 1, .inr (.inr (.inr (.inr (bld (ad 1) (tn 1))))))), (ob 2, .inl (g 4, tn 2, .inr (.inr (.inr (.inr (bld (ad 2) (tn 2))))))), (ob 3, .inl (g 4, tn 3, .inr (.inr (.inr (.inr (bld (ad 3) (tn 3))))))), (ob 4, .inl (g 4, tn 4, .inr (.inr (.inr (.inr (bld (ad 4) (tn 4))))))), (q_1, .inl (g 0, tn 2 + 2, .inl (upd wv (i + 1) (c4.1.2.2.2.2.2.1 i))))] : va_W) ++ simW (g 0) ad tn (simM tr od (uRu c4 i ((c4.1.2.2.2.2.2.2 i) + 1)))) := hD
                        refine lv_iinc (v := nI (i + 1)) (lv' := [(3, .int (nI (i + 1))), (0, .ref sm), (2, .ref q_1)]) hx hb dX11_pass_353 hl (k := 2) rfl (nI_1 i) (by decide) rfl (fun ls hl => ?_)
                        refine lv_goto (tgt := 289) hx hb dX11_pass_356 (by decide) ?_
                        exact ih_289  (i + 1) (uRu c4 i ((c4.1.2.2.2.2.2.2 i) + 1)) (upd wv (i + 1) (c4.1.2.2.2.2.2.1 i)) (by omega) (by omega) (by first | exact rs_a (by omega) hC3 (by omega) hc4 (Int32.not_lt.mpr c_321) | exact rs_b hc4 c_329 c_338 | exact rs_c (by omega) hC3 (by omega) hc4 (Int32.not_le.mp c_321) (Or.inl c_329) | exact rs_c (by omega) hC3 (by omega) hc4 (Int32.not_le.mp c_321) (Or.inr c_338)) (by rw [ew, hw4]; exact fWv_s) _ _ (va_P.part hP [0, 1, 2, 3, 4, 5, 6] rfl) (hD.part [0, 1, 2, 3, 4, 5, 6] (by decide +kernel) rfl) hS ls (lv_sub hl [1, 2, 0] rfl)
                      · skip
                        refine lv_aload_n hx hb dX11_pass_332 rfl (lv_at hl 0 rfl) ?_
                        refine va_get (D := D) (ci := 9) (v := .int c4.1.1) (C := RX11) (T := TX11) (N := 9) hx hb hts in_X11 hown hK hP 0 rfl rfl 0 (by decide) (hts _ w_1208) (fun _ h9 => h9) rfl dX11_pass_333 ?_
                        refine lv_iconst (v := 3) hx hb dX11_pass_336 (by decide) ?_
                        refine lv_irem hx hb dX11_pass_337 (by decide) ?_
                        refine lv_if_ne (tgt := 353) hx hb dX11_pass_338 (by decide) (fun c_338 => ?_) (fun c_338 => ?_)
                        · skip
                          refine lv_iinc (v := nI (i + 1)) (lv' := [(3, .int (nI (i + 1))), (0, .ref sm), (2, .ref q_1)]) hx hb dX11_pass_353 hl (k := 2) rfl (nI_1 i) (by decide) rfl (fun ls hl => ?_)
                          refine lv_goto (tgt := 289) hx hb dX11_pass_356 (by decide) ?_
                          exact ih_289  (i + 1) c4 (upd wv (i + 1) (c4.1.2.2.2.2.2.1 i)) (by omega) (by omega) (by first | exact rs_a (by omega) hC3 (by omega) hc4 (Int32.not_lt.mpr c_321) | exact rs_b hc4 c_329 c_338 | exact rs_c (by omega) hC3 (by omega) hc4 (Int32.not_le.mp c_321) (Or.inl c_329) | exact rs_c (by omega) hC3 (by omega) hc4 (Int32.not_le.mp c_321) (Or.inr c_338)) (by rw [ew, hw4]; exact fWv_s) _ _ (va_P.part hP [0, 1, 2, 3, 4, 5, 6] rfl) (hD.part [0, 1, 2, 3, 4, 5, 6] (by decide +kernel) rfl) hS ls (lv_sub hl [1, 2, 0] rfl)
                        · skip
                          refine lv_aload_n hx hb dX11_pass_341 rfl (lv_at hl 0 rfl) ?_
                          refine va_get (D := D) (ci := 9) (v := .ref (ob 2)) (C := RX11) (T := TX11) (N := 9) hx hb hts in_X11 hown hK hP 0 rfl rfl 6 (by decide) (hts _ w_1219) (fun _ h9 => h9) rfl dX11_pass_342 ?_
                          refine lv_iload_n hx hb dX11_pass_345 rfl (lv_at hl 2 rfl) ?_
                          refine k_aldB (i := i) hx hb hK hP 3 rfl (by omega) (Nat.le_refl _) (by omega) dX11_pass_346 ?_
                          refine lv_iconst (v := 4) hx hb dX11_pass_347 (by decide) ?_
                          refine lv_dup2_11 hx hb dX11_pass_348 rfl rfl ?_
                          refine k_ldS (j := 2) (i := i) (q := 4) (v := c4.1.2.2.2.2.2.2 i) hx hb hK hP (by decide) (by omega) (by decide) rfl dX11_pass_349 ?_
                          refine lv_iconst (v := 1) hx hb dX11_pass_350 (by decide) ?_
                          refine lv_iadd hx hb dX11_pass_351 ?_
                          refine k_stS (j := 2) (i := i) (q := 4) hx hb hK hP hD hS (by decide) (by omega) (by decide) dX11_pass_352 (fun H locs hP7 hD7 hS7 => ?_)
                          clear hP hD hS
                          have hP := hP7
                          have hD := hD7
                          have hS := hS7
                          clear hP7 hD7 hS7
                          rw [sm_Ru] at hP hD
                          replace hP : va_P D CLS (([(sm, .inr (9, [.int c4.1.1, .int c4.1.2.1, .int c4.1.2.2.1, .int c4.2.1, .ref (ob 0), .ref (ob 1), .ref (ob 2), .ref (ob 3), .ref (ob 4)])), (ob 0, .inl (g 4, tn 0, .inr (.inr (.inr (.inr (bld (ad 0) (tn 0))))))), (ob 1, .inl (g 4, tn 1, .inr (.inr (.inr (.inr (bld (ad 1) (tn 1))))))), (ob 2, .inl (g 4, tn 2, .inr (.inr (.inr (.inr (bld (ad 2) (tn 2))))))), (ob 3, .inl (g 4, tn 3, .inr (.inr (.inr (.inr (bld (ad 3) (tn 3))))))), (ob 4, .inl (g 4, tn 4, .inr (.inr (.inr (.inr (bld (ad 4) (tn 4))))))), (q_1, .inl (g 0, tn 2 + 2, .inl (upd wv (i + 1) (c4.1.2.2.2.2.2.1 i))))] : va_W) ++ simW (g 0) ad tn (simM tr od (uRu c4 i ((c4.1.2.2.2.2.2.2 i) + 1)))) H := hP
                          replace hD : va_D A (([(sm, .inr (9, [.int c4.1.1, .int c4.1.2.1, .int c4.1.2.2.1, .int c4.2.1, .ref (ob 0), .ref (ob 1), .ref (ob 2), .ref (ob 3), .ref (ob 4)])), (ob 0, .inl (g 4, tn 0, .inr (.inr (.inr (.inr (bld (ad 0) (tn 0))))))), (ob 1, .inl (g 4, tn 1, .inr (.inr (.inr (.inr (bld (ad 1) (tn 1))))))), (ob 2, .inl (g 4, tn 2, .inr (.inr (.inr (.inr (bld (ad 2) (tn 2))))))), (ob 3, .inl (g 4, tn 3, .inr (.inr (.inr (.inr (bld (ad 3) (tn 3))))))), (ob 4, .inl (g 4, tn 4, .inr (.inr (.inr (.inr (bld (ad 4) (tn 4))))))), (q_1, .inl (g 0, tn 2 + 2, .inl (upd wv (i + 1) (c4.1.2.2.2.2.2.1 i))))] : va_W) ++ simW (g 0) ad tn (simM tr od (uRu c4 i ((c4.1.2.2.2.2.2.2 i) + 1)))) := hD
                          refine lv_iinc (v := nI (i + 1)) (lv' := [(3, .int (nI (i + 1))), (0, .ref sm), (2, .ref q_1)]) hx hb dX11_pass_353 hl (k := 2) rfl (nI_1 i) (by decide) rfl (fun ls hl => ?_)
                          refine lv_goto (tgt := 289) hx hb dX11_pass_356 (by decide) ?_
                          exact ih_289  (i + 1) (uRu c4 i ((c4.1.2.2.2.2.2.2 i) + 1)) (upd wv (i + 1) (c4.1.2.2.2.2.2.1 i)) (by omega) (by omega) (by first | exact rs_a (by omega) hC3 (by omega) hc4 (Int32.not_lt.mpr c_321) | exact rs_b hc4 c_329 c_338 | exact rs_c (by omega) hC3 (by omega) hc4 (Int32.not_le.mp c_321) (Or.inl c_329) | exact rs_c (by omega) hC3 (by omega) hc4 (Int32.not_le.mp c_321) (Or.inr c_338)) (by rw [ew, hw4]; exact fWv_s) _ _ (va_P.part hP [0, 1, 2, 3, 4, 5, 6] rfl) (hD.part [0, 1, 2, 3, 4, 5, 6] (by decide +kernel) rfl) hS ls (lv_sub hl [1, 2, 0] rfl)
              exact loop_289 (tn 2 - 0 + 1) 0 c3 (fun _ => 0) (by omega) (Nat.zero_le _) fRsI_0 fWv_0 _ _ (va_P.part hP [0, 1, 2, 3, 4, 5, 6] rfl) (hD.part [0, 1, 2, 3, 4, 5, 6] (by decide +kernel) rfl) hS ls (lv_sub hl [2, 1, 0] rfl)
            · skip
              have c_233 : ¬ (tn 4) ≤ i := fun h => c_233 ((nI_leI (a := (tn 4)) (b := i) (by omega) (by omega)).mpr h)
              have hoo := hO.2.2.2.2.2 i (by omega)
              have hob := hoo.1
              refine lv_aload_n hx hb dX11_pass_236 rfl (lv_at hl 1 rfl) ?_
              refine lv_iload hx hb dX11_pass_237 (lv_at hl 3 rfl) ?_
              refine k_aldB (i := i) hx hb hK hP 5 rfl (by omega) (Nat.le_refl _) (by omega) dX11_pass_239 ?_
              refine lv_astore (lv' := [(5, .ref (ad 4 i)), (0, .ref sm), (2, .ref (ob 4)), (3, .int (nI (tn 4))), (4, .int (nI i))]) hx hb dX11_pass_240 hl (by decide) rfl (fun ls hl => ?_)
              refine lv_aload hx hb dX11_pass_242 (lv_at hl 0 rfl) ?_
              refine lv_iconst (v := 0) hx hb dX11_pass_244 (by decide) ?_
              refine k_ldS (j := 4) (i := i) (q := 0) (v := nI (od i 0)) hx hb hK hP (by decide) (by omega) (by decide) rfl dX11_pass_245 ?_
              refine lv_iconst (v := 1) hx hb dX11_pass_246 (by decide) ?_
              refine lv_icmp_ne (tgt := 271) hx hb dX11_pass_247 (by decide) (fun c_247 => ?_) (fun c_247 => ?_)
              · skip
                have c_247 : ¬ (od i 0) = 1 := fun h => c_247 ((nI_eq (a := (od i 0)) (b := 1) (by omega) (by omega)).mpr h)
                refine lv_iinc (v := nI (i + 1)) (lv' := [(4, .int (nI (i + 1))), (5, .ref (ad 4 i)), (0, .ref sm), (2, .ref (ob 4)), (3, .int (nI (tn 4)))]) hx hb dX11_pass_271 hl (k := 4) rfl (nI_1 i) (by decide) rfl (fun ls hl => ?_)
                refine lv_goto (tgt := 230) hx hb dX11_pass_274 (by decide) ?_
                exact ih_230  (i + 1) c3 (by omega) (by omega) (by first | exact oi_a (by omega) hoo (by omega) c_247 hc3 | exact fOil_b hc3 c_256 | exact oi_c hoo (by omega) (by omega) c_247 c_256 hc3) _ _ (va_P.part hP [0, 1, 2, 3, 4, 5] rfl) (hD.part [0, 1, 2, 3, 4, 5] (by decide +kernel) rfl) hS ls (lv_sub hl [2, 3, 4, 0] rfl)
              · skip
                have c_247 : (od i 0) = 1 := (nI_eq (a := (od i 0)) (b := 1) (by omega) (by omega)).mp c_247
                refine lv_aload_n hx hb dX11_pass_250 rfl (lv_at hl 1 rfl) ?_
                refine lv_aload hx hb dX11_pass_251 (lv_at hl 0 rfl) ?_
                refine k_iP hA hP hD hS [(ob 1, .inl (g 4, tn 1, .inr (.inr (.inr (.inr (bld (ad 1) (tn 1))))))), (ob 3, .inl (g 4, tn 3, .inr (.inr (.inr (.inr (bld (ad 3) (tn 3))))))), (ob 4, .inl (g 4, tn 4, .inr (.inr (.inr (.inr (bld (ad 4) (tn 4)))))))] (va_runV (As := [.ref (ad 4 i)]) (rest := []) ⟨hx, hb, hml, hown, hts⟩ (c_X11_holds l9 z D g sm ob ad tn tr od c3 dd m i hO hC3 (by omega) (Array.size H)) (cwV 1 hts gv_X11_50 rfl rfl rfl (by decide +kernel) ⟨Nat.le_of_ble_eq_true rfl, Nat.le_of_ble_eq_true rfl⟩) ⟨kBlind, va_recv hK hP (ci := 9) (q0 := 0) rfl rfl, kPre.pcP hK hZ hA hP hD hS [0, 1, 3] rfl (by decide +kernel)⟩ rfl rfl hl.1 rfl (lv_room (Nat.le_of_ble_eq_true rfl)) dX11_pass_253 ⟨Nat.le_of_ble_eq_true rfl, Nat.le_of_ble_eq_true rfl⟩) [0, 1, 3] [2, 4, 5] rfl rfl rfl rfl (fun r_253 u_17 H locs hw_253 hP7 hD7 hS7 => ?_)
                clear hP hD hS
                have hP := hP7
                have hD := hD7
                have hS := hS7
                clear hP7 hD7 hS7
                obtain rfl := hw_253
                replace hP : va_P D CLS (([(ob 1, .inl (g 4, tn 1, .inr (.inr (.inr (.inr (bld (ad 1) (tn 1))))))), (ob 3, .inl (g 4, tn 3, .inr (.inr (.inr (.inr (bld (ad 3) (tn 3))))))), (ob 4, .inl (g 4, tn 4, .inr (.inr (.inr (.inr (bld (ad 4) (tn 4))))))), (sm, .inr (9, [.int c3.1.1, .int c3.1.2.1, .int c3.1.2.2.1, .int c3.2.1, .ref (ob 0), .ref (ob 1), .ref (ob 2), .ref (ob 3), .ref (ob 4)])), (ob 0, .inl (g 4, tn 0, .inr (.inr (.inr (.inr (bld (ad 0) (tn 0))))))), (ob 2, .inl (g 4, tn 2, .inr (.inr (.inr (.inr (bld (ad 2) (tn 2)))))))] : va_W) ++ simW (g 0) ad tn (simM tr od c3)) H := hP
                replace hD : va_D A (([(ob 1, .inl (g 4, tn 1, .inr (.inr (.inr (.inr (bld (ad 1) (tn 1))))))), (ob 3, .inl (g 4, tn 3, .inr (.inr (.inr (.inr (bld (ad 3) (tn 3))))))), (ob 4, .inl (g 4, tn 4, .inr (.inr (.inr (.inr (bld (ad 4) (tn 4))))))), (sm, .inr (9, [.int c3.1.1, .int c3.1.2.1, .int c3.1.2.2.1, .int c3.2.1, .ref (ob 0), .ref (ob 1), .ref (ob 2), .ref (ob 3), .ref (ob 4)])), (ob 0, .inl (g 4, tn 0, .inr (.inr (.inr (.inr (bld (ad 0) (tn 0))))))), (ob 2, .inl (g 4, tn 2, .inr (.inr (.inr (.inr (bld (ad 2) (tn 2)))))))] : va_W) ++ simW (g 0) ad tn (simM tr od c3)) := hD
                refine lv_if_eq (tgt := 271) hx hb dX11_pass_256 (by decide) (fun c_256 => ?_) (fun c_256 => ?_)
                · skip
                  have c_256 := bI_0.mp c_256
                  refine lv_iinc (v := nI (i + 1)) (lv' := [(4, .int (nI (i + 1))), (5, .ref (ad 4 i)), (0, .ref sm), (2, .ref (ob 4)), (3, .int (nI (tn 4)))]) hx hb dX11_pass_271 hl (k := 4) rfl (nI_1 i) (by decide) rfl (fun ls hl => ?_)
                  refine lv_goto (tgt := 230) hx hb dX11_pass_274 (by decide) ?_
                  exact ih_230  (i + 1) c3 (by omega) (by omega) (by first | exact oi_a (by omega) hoo (by omega) c_247 hc3 | exact fOil_b hc3 c_256 | exact oi_c hoo (by omega) (by omega) c_247 c_256 hc3) _ _ (va_P.part hP [3, 4, 0, 5, 1, 2] rfl) (hD.part [3, 4, 0, 5, 1, 2] (by decide +kernel) rfl) hS ls (lv_sub hl [2, 3, 4, 0] rfl)
                · skip
                  have c_256 := bI_1.mp c_256
                  refine lv_aload_n hx hb dX11_pass_259 rfl (lv_at hl 1 rfl) ?_
                  refine va_get (D := D) (ci := 9) (v := .ref (ob 2)) (C := RX11) (T := TX11) (N := 9) hx hb hts in_X11 hown hK hP 3 rfl rfl 6 (by decide) (hts _ w_1219) (fun _ h9 => h9) rfl dX11_pass_260 ?_
                  refine lv_aload hx hb dX11_pass_263 (lv_at hl 0 rfl) ?_
                  refine lv_iconst (v := 1) hx hb dX11_pass_265 (by decide) ?_
                  refine k_ldS (j := 4) (i := i) (q := 1) (v := nI (od i 1)) hx hb hK hP (by decide) (by omega) (by decide) rfl dX11_pass_266 ?_
                  refine k_aldB (i := od i 1) hx hb hK hP 5 rfl (by omega) (Nat.le_refl _) (by omega) dX11_pass_267 ?_
                  refine lv_iconst (v := 4) hx hb dX11_pass_268 (by decide) ?_
                  refine lv_iconst (v := 0) hx hb dX11_pass_269 (by decide) ?_
                  refine k_stS (j := 2) (i := (od i 1)) (q := 4) hx hb hK hP hD hS (by decide) (by omega) (by decide) dX11_pass_270 (fun H locs hP7 hD7 hS7 => ?_)
                  clear hP hD hS
                  have hP := hP7
                  have hD := hD7
                  have hS := hS7
                  clear hP7 hD7 hS7
                  rw [sm_Ru] at hP hD
                  replace hP : va_P D CLS (([(ob 1, .inl (g 4, tn 1, .inr (.inr (.inr (.inr (bld (ad 1) (tn 1))))))), (ob 3, .inl (g 4, tn 3, .inr (.inr (.inr (.inr (bld (ad 3) (tn 3))))))), (ob 4, .inl (g 4, tn 4, .inr (.inr (.inr (.inr (bld (ad 4) (tn 4))))))), (sm, .inr (9, [.int c3.1.1, .int c3.1.2.1, .int c3.1.2.2.1, .int c3.2.1, .ref (ob 0), .ref (ob 1), .ref (ob 2), .ref (ob 3), .ref (ob 4)])), (ob 0, .inl (g 4, tn 0, .inr (.inr (.inr (.inr (bld (ad 0) (tn 0))))))), (ob 2, .inl (g 4, tn 2, .inr (.inr (.inr (.inr (bld (ad 2) (tn 2)))))))] : va_W) ++ simW (g 0) ad tn (simM tr od (uRu c3 (od i 1) 0))) H := hP
                  replace hD : va_D A (([(ob 1, .inl (g 4, tn 1, .inr (.inr (.inr (.inr (bld (ad 1) (tn 1))))))), (ob 3, .inl (g 4, tn 3, .inr (.inr (.inr (.inr (bld (ad 3) (tn 3))))))), (ob 4, .inl (g 4, tn 4, .inr (.inr (.inr (.inr (bld (ad 4) (tn 4))))))), (sm, .inr (9, [.int c3.1.1, .int c3.1.2.1, .int c3.1.2.2.1, .int c3.2.1, .ref (ob 0), .ref (ob 1), .ref (ob 2), .ref (ob 3), .ref (ob 4)])), (ob 0, .inl (g 4, tn 0, .inr (.inr (.inr (.inr (bld (ad 0) (tn 0))))))), (ob 2, .inl (g 4, tn 2, .inr (.inr (.inr (.inr (bld (ad 2) (tn 2)))))))] : va_W) ++ simW (g 0) ad tn (simM tr od (uRu c3 (od i 1) 0))) := hD
                  refine lv_iinc (v := nI (i + 1)) (lv' := [(4, .int (nI (i + 1))), (5, .ref (ad 4 i)), (0, .ref sm), (2, .ref (ob 4)), (3, .int (nI (tn 4)))]) hx hb dX11_pass_271 hl (k := 4) rfl (nI_1 i) (by decide) rfl (fun ls hl => ?_)
                  refine lv_goto (tgt := 230) hx hb dX11_pass_274 (by decide) ?_
                  exact ih_230  (i + 1) (uRu c3 (od i 1) 0) (by omega) (by omega) (by first | exact oi_a (by omega) hoo (by omega) c_247 hc3 | exact fOil_b hc3 c_256 | exact oi_c hoo (by omega) (by omega) c_247 c_256 hc3) _ _ (va_P.part hP [3, 4, 0, 5, 1, 2] rfl) (hD.part [3, 4, 0, 5, 1, 2] (by decide +kernel) rfl) hS ls (lv_sub hl [2, 3, 4, 0] rfl)
        exact loop_230 (tn 4 - 0 + 1) 0 c2 (by omega) (Nat.zero_le _) hc _ _ (va_P.part hP [0, 1, 2, 3, 4, 5] rfl) (hD.part [0, 1, 2, 3, 4, 5] (by decide +kernel) rfl) hS ls (lv_sub hl [3, 2, 1, 0] rfl)
      · skip
        have c_8 : ¬ (tn 1) ≤ i := fun h => c_8 ((nI_leI (a := (tn 1)) (b := i) (by omega) (by omega)).mpr h)
        refine lv_iload_n hx hb dX11_pass_11 rfl (lv_at hl 2 rfl) ?_
        refine lv_iload_n hx hb dX11_pass_12 rfl (lv_at hl 1 rfl) ?_
        refine lv_icmp_ne (tgt := 20) hx hb dX11_pass_13 (by decide) (fun c_13 => ?_) (fun c_13 => ?_)
        · skip
          refine lv_aload_n hx hb dX11_pass_20 rfl (lv_at hl 0 rfl) ?_
          refine lv_iload_n hx hb dX11_pass_21 rfl (lv_at hl 2 rfl) ?_
          refine k_iP hA hP hD hS [(ob 3, .inl (g 4, tn 3, .inr (.inr (.inr (.inr (bld (ad 3) (tn 3)))))))] (va_runV (As := [.int (nI i)]) (rest := []) ⟨hx, hb, hml, hown, hts⟩ (c_X11_orderFor l9 z D g sm ob ad tn tr od c2 dd m i hO hC2 (by omega) (Array.size H)) (cwV 1 hts gv_X11_60 rfl rfl rfl (by decide +kernel) ⟨Nat.le_of_ble_eq_true rfl, Nat.le_of_ble_eq_true rfl⟩) ⟨kBlind, va_recv hK hP (ci := 9) (q0 := 0) rfl rfl, kPre.pcP hK hZ hA hP hD hS [0, 1, 2, 3, 5] rfl (by decide +kernel)⟩ rfl rfl hl.1 rfl (lv_room (Nat.le_of_ble_eq_true rfl)) dX11_pass_22 ⟨Nat.le_of_ble_eq_true rfl, Nat.le_of_ble_eq_true rfl⟩) [0, 1, 2, 3, 5] [4] rfl rfl rfl rfl (fun r_22 u_18 H locs hw_22 hP7 hD7 hS7 => ?_)
          clear hP hD hS
          have hP := hP7
          have hD := hD7
          have hS := hS7
          clear hP7 hD7 hS7
          obtain rfl := hw_22
          replace hP : va_P D CLS (([(ob 3, .inl (g 4, tn 3, .inr (.inr (.inr (.inr (bld (ad 3) (tn 3))))))), (sm, .inr (9, [.int c2.1.1, .int c2.1.2.1, .int c2.1.2.2.1, .int c2.2.1, .ref (ob 0), .ref (ob 1), .ref (ob 2), .ref (ob 3), .ref (ob 4)])), (ob 0, .inl (g 4, tn 0, .inr (.inr (.inr (.inr (bld (ad 0) (tn 0))))))), (ob 1, .inl (g 4, tn 1, .inr (.inr (.inr (.inr (bld (ad 1) (tn 1))))))), (ob 2, .inl (g 4, tn 2, .inr (.inr (.inr (.inr (bld (ad 2) (tn 2))))))), (ob 4, .inl (g 4, tn 4, .inr (.inr (.inr (.inr (bld (ad 4) (tn 4)))))))] : va_W) ++ simW (g 0) ad tn (simM tr od c2)) H := hP
          replace hD : va_D A (([(ob 3, .inl (g 4, tn 3, .inr (.inr (.inr (.inr (bld (ad 3) (tn 3))))))), (sm, .inr (9, [.int c2.1.1, .int c2.1.2.1, .int c2.1.2.2.1, .int c2.2.1, .ref (ob 0), .ref (ob 1), .ref (ob 2), .ref (ob 3), .ref (ob 4)])), (ob 0, .inl (g 4, tn 0, .inr (.inr (.inr (.inr (bld (ad 0) (tn 0))))))), (ob 1, .inl (g 4, tn 1, .inr (.inr (.inr (.inr (bld (ad 1) (tn 1))))))), (ob 2, .inl (g 4, tn 2, .inr (.inr (.inr (.inr (bld (ad 2) (tn 2))))))), (ob 4, .inl (g 4, tn 4, .inr (.inr (.inr (.inr (bld (ad 4) (tn 4)))))))] : va_W) ++ simW (g 0) ad tn (simM tr od c2)) := hD
          refine lv_istore_n (lv' := [(3, .int (oI (fToday tr (tn 4) (fun j v => sHold tn (od j) v) c2.1 i))), (0, .ref sm), (1, .int (-1)), (2, .int (nI i))]) hx hb dX11_pass_25 rfl hl (by decide) rfl (fun ls hl => ?_)
          refine lv_iload_n hx hb dX11_pass_26 rfl (lv_at hl 0 rfl) ?_
          refine lv_if_ge (tgt := 33) hx hb dX11_pass_27 (by decide) (fun c_27 => ?_) (fun c_27 => ?_)
          · skip
            obtain ⟨o, ho9⟩ := oI_ge (Int32.not_lt.mpr c_27)
            have e3 : oI (fToday tr (tn 4) (fun j v => sHold tn (od j) v) c2.1 i) = nI o := by rw [ho9]; rfl
            rw [e3] at hl
            obtain ⟨ho1, ho2, ho3, ho4, ho5, ho6⟩ := td_some hO hC2.1 (by have := hC2.2.1; omega) (by omega) ho9
            have hoo := hO.2.2.2.2.2 o ho1
            have hob := hoo.1
            refine lv_aload_n hx hb dX11_pass_33 rfl (lv_at hl 1 rfl) ?_
            refine va_get (D := D) (ci := 9) (v := .ref (ob 4)) (C := RX11) (T := TX11) (N := 9) hx hb hts in_X11 hown hK hP 1 rfl rfl 8 (by decide) (hts _ w_1223) (fun _ h9 => h9) rfl dX11_pass_34 ?_
            refine lv_iload_n hx hb dX11_pass_37 rfl (lv_at hl 0 rfl) ?_
            refine k_aldB (i := o) hx hb hK hP 5 rfl ho1 (Nat.le_refl _) (by omega) dX11_pass_38 ?_
            refine lv_astore (lv' := [(4, .ref (ad 4 o)), (3, .int (nI o)), (0, .ref sm), (1, .int (-1)), (2, .int (nI i))]) hx hb dX11_pass_39 hl (by decide) rfl (fun ls hl => ?_)
            refine lv_aload_n hx hb dX11_pass_41 rfl (lv_at hl 2 rfl) ?_
            refine va_get (D := D) (ci := 9) (v := .ref (ob 2)) (C := RX11) (T := TX11) (N := 9) hx hb hts in_X11 hown hK hP 1 rfl rfl 6 (by decide) (hts _ w_1219) (fun _ h9 => h9) rfl dX11_pass_42 ?_
            refine lv_aload hx hb dX11_pass_45 (lv_at hl 0 rfl) ?_
            refine lv_iconst (v := 1) hx hb dX11_pass_47 (by decide) ?_
            refine k_ldS (j := 4) (i := o) (q := 1) (v := nI (od o 1)) hx hb hK hP (by decide) (by omega) (by decide) rfl dX11_pass_48 ?_
            refine k_aldB (i := od o 1) hx hb hK hP 4 rfl (by omega) (Nat.le_refl _) (by omega) dX11_pass_49 ?_
            refine lv_astore (lv' := [(5, .ref (ad 2 (od o 1))), (4, .ref (ad 4 o)), (3, .int (nI o)), (0, .ref sm), (1, .int (-1)), (2, .int (nI i))]) hx hb dX11_pass_50 hl (by decide) rfl (fun ls hl => ?_)
            refine lv_aload_n hx hb dX11_pass_52 rfl (lv_at hl 3 rfl) ?_
            refine va_get (D := D) (ci := 9) (v := .ref (ob 1)) (C := RX11) (T := TX11) (N := 9) hx hb hts in_X11 hown hK hP 1 rfl rfl 5 (by decide) (hts _ w_1217) (fun _ h9 => h9) rfl dX11_pass_53 ?_
            refine lv_iload_n hx hb dX11_pass_56 rfl (lv_at hl 5 rfl) ?_
            refine k_aldB (i := i) hx hb hK hP 3 rfl (by omega) (Nat.le_refl _) (by omega) dX11_pass_57 ?_
            refine lv_iconst (v := 2) hx hb dX11_pass_58 (by decide) ?_
            refine k_ldS (j := 1) (i := i) (q := 2) (v := tr 4 i) hx hb hK hP (by decide) (by omega) (by decide) rfl dX11_pass_59 ?_
            refine lv_aload hx hb dX11_pass_60 (lv_at hl 1 rfl) ?_
            refine lv_iconst (v := 2) hx hb dX11_pass_62 (by decide) ?_
            refine k_ldS (j := 4) (i := o) (q := 2) (v := nI (od o 2)) hx hb hK hP (by decide) (by omega) (by decide) rfl dX11_pass_63 ?_
            refine lv_icmp_ne (tgt := 71) hx hb dX11_pass_64 (by decide) (fun c_64 => ?_) (fun c_64 => ?_)
            · skip
              refine lv_iconst (v := 0) hx hb dX11_pass_71 (by decide) ?_
              refine lv_istore (lv' := [(6, .int 0), (5, .ref (ad 2 (od o 1))), (4, .ref (ad 4 o)), (3, .int (nI o)), (0, .ref sm), (1, .int (-1)), (2, .int (nI i))]) hx hb dX11_pass_72 hl (by decide) rfl (fun ls hl => ?_)
              refine lv_aload hx hb dX11_pass_74 (lv_at hl 2 rfl) ?_
              refine lv_iconst (v := 4) hx hb dX11_pass_76 (by decide) ?_
              refine lv_dup2_11 hx hb dX11_pass_77 rfl rfl ?_
              refine k_ldS (j := 4) (i := o) (q := 4) (v := c2.2.2.1 o) hx hb hK hP (by decide) (by omega) (by decide) rfl dX11_pass_78 ?_
              refine lv_aload_n hx hb dX11_pass_79 rfl (lv_at hl 4 rfl) ?_
              refine va_get (D := D) (ci := 9) (v := .ref (ob 1)) (C := RX11) (T := TX11) (N := 9) hx hb hts in_X11 hown hK hP 1 rfl rfl 5 (by decide) (hts _ w_1217) (fun _ h9 => h9) rfl dX11_pass_80 ?_
              refine lv_iload_n hx hb dX11_pass_83 rfl (lv_at hl 6 rfl) ?_
              refine k_aldB (i := i) hx hb hK hP 3 rfl (by omega) (Nat.le_refl _) (by omega) dX11_pass_84 ?_
              refine lv_iconst (v := 0) hx hb dX11_pass_85 (by decide) ?_
              refine k_ldS (j := 1) (i := i) (q := 0) (v := tr 2 i) hx hb hK hP (by decide) (by omega) (by decide) rfl dX11_pass_86 ?_
              refine lv_iload hx hb dX11_pass_87 (lv_at hl 0 rfl) ?_
              refine lv_if_eq (tgt := 96) hx hb dX11_pass_89 (by decide) (fun c_89 => ?_) (fun c_89 => ?_)
              · skip
                refine lv_iconst (v := 1) hx hb dX11_pass_96 (by decide) ?_
                refine lv_imul hx hb dX11_pass_97 ?_
                refine lv_iadd hx hb dX11_pass_98 ?_
                refine k_stS (j := 4) (i := o) (q := 4) hx hb hK hP hD hS (by decide) (by omega) (by decide) dX11_pass_99 (fun H locs hP7 hD7 hS7 => ?_)
                clear hP hD hS
                have hP := hP7
                have hD := hD7
                have hS := hS7
                clear hP7 hD7 hS7
                rw [sm_Wk] at hP hD
                replace hP : va_P D CLS (([(ob 3, .inl (g 4, tn 3, .inr (.inr (.inr (.inr (bld (ad 3) (tn 3))))))), (sm, .inr (9, [.int c2.1.1, .int c2.1.2.1, .int c2.1.2.2.1, .int c2.2.1, .ref (ob 0), .ref (ob 1), .ref (ob 2), .ref (ob 3), .ref (ob 4)])), (ob 0, .inl (g 4, tn 0, .inr (.inr (.inr (.inr (bld (ad 0) (tn 0))))))), (ob 1, .inl (g 4, tn 1, .inr (.inr (.inr (.inr (bld (ad 1) (tn 1))))))), (ob 2, .inl (g 4, tn 2, .inr (.inr (.inr (.inr (bld (ad 2) (tn 2))))))), (ob 4, .inl (g 4, tn 4, .inr (.inr (.inr (.inr (bld (ad 4) (tn 4)))))))] : va_W) ++ simW (g 0) ad tn (simM tr od (uWk c2 o ((c2.2.2.1 o) + ((tr 2 i) * 1))))) H := hP
                replace hD : va_D A (([(ob 3, .inl (g 4, tn 3, .inr (.inr (.inr (.inr (bld (ad 3) (tn 3))))))), (sm, .inr (9, [.int c2.1.1, .int c2.1.2.1, .int c2.1.2.2.1, .int c2.2.1, .ref (ob 0), .ref (ob 1), .ref (ob 2), .ref (ob 3), .ref (ob 4)])), (ob 0, .inl (g 4, tn 0, .inr (.inr (.inr (.inr (bld (ad 0) (tn 0))))))), (ob 1, .inl (g 4, tn 1, .inr (.inr (.inr (.inr (bld (ad 1) (tn 1))))))), (ob 2, .inl (g 4, tn 2, .inr (.inr (.inr (.inr (bld (ad 2) (tn 2))))))), (ob 4, .inl (g 4, tn 4, .inr (.inr (.inr (.inr (bld (ad 4) (tn 4)))))))] : va_W) ++ simW (g 0) ad tn (simM tr od (uWk c2 o ((c2.2.2.1 o) + ((tr 2 i) * 1))))) := hD
                refine lv_aload hx hb dX11_pass_100 (lv_at hl 2 rfl) ?_
                refine lv_iconst (v := 4) hx hb dX11_pass_102 (by decide) ?_
                refine k_ldS (j := 4) (i := o) (q := 4) (v := (uWk c2 o ((c2.2.2.1 o) + ((tr 2 i) * 1))).2.2.1 o) hx hb hK hP (by decide) (by omega) (by decide) rfl dX11_pass_103 ?_
                refine k_topi (show ((uWk c2 o ((c2.2.2.1 o) + ((tr 2 i) * 1))).2.2.1 o) = ((c2.2.2.1 o) + ((tr 2 i) * 1)) from pk_us) ?_
                refine lv_aload hx hb dX11_pass_104 (lv_at hl 1 rfl) ?_
                refine lv_iconst (v := 0) hx hb dX11_pass_106 (by decide) ?_
                refine k_ldS (j := 2) (i := (od o 1)) (q := 0) (v := tr 5 (od o 1)) hx hb hK hP (by decide) (by omega) (by decide) rfl dX11_pass_107 ?_
                refine lv_aload_n hx hb dX11_pass_108 rfl (lv_at hl 4 rfl) ?_
                refine va_get (D := D) (ci := 9) (v := .ref (ob 0)) (C := RX11) (T := TX11) (N := 9) hx hb hts in_X11 hown hK hP 1 rfl rfl 4 (by decide) (hts _ w_1215) (fun _ h9 => h9) rfl dX11_pass_109 ?_
                refine lv_aload hx hb dX11_pass_112 (lv_at hl 2 rfl) ?_
                refine lv_iconst (v := 2) hx hb dX11_pass_114 (by decide) ?_
                refine k_ldS (j := 4) (i := o) (q := 2) (v := nI (od o 2)) hx hb hK hP (by decide) (by omega) (by decide) rfl dX11_pass_115 ?_
                refine k_aldB (i := od o 2) hx hb hK hP 2 rfl (by omega) (Nat.le_refl _) (by omega) dX11_pass_116 ?_
                refine lv_iconst (v := 1) hx hb dX11_pass_117 (by decide) ?_
                refine k_ldS (j := 0) (i := (od o 2)) (q := 1) (v := tr 1 (od o 2)) hx hb hK hP (by decide) (by omega) (by decide) rfl dX11_pass_118 ?_
                refine lv_imul hx hb dX11_pass_119 ?_
                refine lv_iconst (v := 2) hx hb dX11_pass_120 (by decide) ?_
                refine lv_imul hx hb dX11_pass_121 ?_
                refine lv_icmp_ge (tgt := 128) hx hb dX11_pass_122 (by decide) (fun c_122 => ?_) (fun c_122 => ?_)
                · skip
                  refine lv_aload hx hb dX11_pass_128 (lv_at hl 2 rfl) ?_
                  refine lv_iconst (v := 4) hx hb dX11_pass_130 (by decide) ?_
                  refine lv_iconst (v := 0) hx hb dX11_pass_131 (by decide) ?_
                  refine k_stS (j := 4) (i := o) (q := 4) hx hb hK hP hD hS (by decide) (by omega) (by decide) dX11_pass_132 (fun H locs hP7 hD7 hS7 => ?_)
                  clear hP hD hS
                  have hP := hP7
                  have hD := hD7
                  have hS := hS7
                  clear hP7 hD7 hS7
                  rw [sm_Wk2] at hP hD
                  replace hP : va_P D CLS (([(ob 3, .inl (g 4, tn 3, .inr (.inr (.inr (.inr (bld (ad 3) (tn 3))))))), (sm, .inr (9, [.int c2.1.1, .int c2.1.2.1, .int c2.1.2.2.1, .int c2.2.1, .ref (ob 0), .ref (ob 1), .ref (ob 2), .ref (ob 3), .ref (ob 4)])), (ob 0, .inl (g 4, tn 0, .inr (.inr (.inr (.inr (bld (ad 0) (tn 0))))))), (ob 1, .inl (g 4, tn 1, .inr (.inr (.inr (.inr (bld (ad 1) (tn 1))))))), (ob 2, .inl (g 4, tn 2, .inr (.inr (.inr (.inr (bld (ad 2) (tn 2))))))), (ob 4, .inl (g 4, tn 4, .inr (.inr (.inr (.inr (bld (ad 4) (tn 4)))))))] : va_W) ++ simW (g 0) ad tn (simM tr od (uWk c2 o 0))) H := hP
                  replace hD : va_D A (([(ob 3, .inl (g 4, tn 3, .inr (.inr (.inr (.inr (bld (ad 3) (tn 3))))))), (sm, .inr (9, [.int c2.1.1, .int c2.1.2.1, .int c2.1.2.2.1, .int c2.2.1, .ref (ob 0), .ref (ob 1), .ref (ob 2), .ref (ob 3), .ref (ob 4)])), (ob 0, .inl (g 4, tn 0, .inr (.inr (.inr (.inr (bld (ad 0) (tn 0))))))), (ob 1, .inl (g 4, tn 1, .inr (.inr (.inr (.inr (bld (ad 1) (tn 1))))))), (ob 2, .inl (g 4, tn 2, .inr (.inr (.inr (.inr (bld (ad 2) (tn 2))))))), (ob 4, .inl (g 4, tn 4, .inr (.inr (.inr (.inr (bld (ad 4) (tn 4)))))))] : va_W) ++ simW (g 0) ad tn (simM tr od (uWk c2 o 0))) := hD
                  refine lv_aload hx hb dX11_pass_133 (lv_at hl 1 rfl) ?_
                  refine lv_iconst (v := 1) hx hb dX11_pass_135 (by decide) ?_
                  refine lv_aload hx hb dX11_pass_136 (lv_at hl 2 rfl) ?_
                  refine lv_iconst (v := 2) hx hb dX11_pass_138 (by decide) ?_
                  refine k_ldS (j := 4) (i := o) (q := 2) (v := nI (od o 2)) hx hb hK hP (by decide) (by omega) (by decide) rfl dX11_pass_139 ?_
                  refine k_stS (j := 2) (i := (od o 1)) (q := 1) hx hb hK hP hD hS (by decide) (by omega) (by decide) dX11_pass_140 (fun H locs hP7 hD7 hS7 => ?_)
                  clear hP hD hS
                  have hP := hP7
                  have hD := hD7
                  have hS := hS7
                  clear hP7 hD7 hS7
                  rw [sm_Be] at hP hD
                  replace hP : va_P D CLS (([(ob 3, .inl (g 4, tn 3, .inr (.inr (.inr (.inr (bld (ad 3) (tn 3))))))), (sm, .inr (9, [.int c2.1.1, .int c2.1.2.1, .int c2.1.2.2.1, .int c2.2.1, .ref (ob 0), .ref (ob 1), .ref (ob 2), .ref (ob 3), .ref (ob 4)])), (ob 0, .inl (g 4, tn 0, .inr (.inr (.inr (.inr (bld (ad 0) (tn 0))))))), (ob 1, .inl (g 4, tn 1, .inr (.inr (.inr (.inr (bld (ad 1) (tn 1))))))), (ob 2, .inl (g 4, tn 2, .inr (.inr (.inr (.inr (bld (ad 2) (tn 2))))))), (ob 4, .inl (g 4, tn 4, .inr (.inr (.inr (.inr (bld (ad 4) (tn 4)))))))] : va_W) ++ simW (g 0) ad tn (simM tr od (uBe (uWk c2 o 0) (od o 1) (nI (od o 2))))) H := hP
                  replace hD : va_D A (([(ob 3, .inl (g 4, tn 3, .inr (.inr (.inr (.inr (bld (ad 3) (tn 3))))))), (sm, .inr (9, [.int c2.1.1, .int c2.1.2.1, .int c2.1.2.2.1, .int c2.2.1, .ref (ob 0), .ref (ob 1), .ref (ob 2), .ref (ob 3), .ref (ob 4)])), (ob 0, .inl (g 4, tn 0, .inr (.inr (.inr (.inr (bld (ad 0) (tn 0))))))), (ob 1, .inl (g 4, tn 1, .inr (.inr (.inr (.inr (bld (ad 1) (tn 1))))))), (ob 2, .inl (g 4, tn 2, .inr (.inr (.inr (.inr (bld (ad 2) (tn 2))))))), (ob 4, .inl (g 4, tn 4, .inr (.inr (.inr (.inr (bld (ad 4) (tn 4)))))))] : va_W) ++ simW (g 0) ad tn (simM tr od (uBe (uWk c2 o 0) (od o 1) (nI (od o 2))))) := hD
                  refine lv_aload hx hb dX11_pass_141 (lv_at hl 1 rfl) ?_
                  refine lv_iconst (v := 2) hx hb dX11_pass_143 (by decide) ?_
                  refine lv_aload_n hx hb dX11_pass_144 rfl (lv_at hl 4 rfl) ?_
                  refine va_get (D := D) (ci := 9) (v := .ref (ob 1)) (C := RX11) (T := TX11) (N := 9) hx hb hts in_X11 hown hK hP 1 rfl rfl 5 (by decide) (hts _ w_1217) (fun _ h9 => h9) rfl dX11_pass_145 ?_
                  refine lv_iload_n hx hb dX11_pass_148 rfl (lv_at hl 6 rfl) ?_
                  refine k_aldB (i := i) hx hb hK hP 3 rfl (by omega) (Nat.le_refl _) (by omega) dX11_pass_149 ?_
                  refine lv_iconst (v := 0) hx hb dX11_pass_150 (by decide) ?_
                  refine k_ldS (j := 1) (i := i) (q := 0) (v := tr 2 i) hx hb hK hP (by decide) (by omega) (by decide) rfl dX11_pass_151 ?_
                  refine lv_iconst (v := 3) hx hb dX11_pass_152 (by decide) ?_
                  refine lv_imul hx hb dX11_pass_153 ?_
                  refine lv_aload hx hb dX11_pass_154 (lv_at hl 1 rfl) ?_
                  refine lv_iconst (v := 0) hx hb dX11_pass_156 (by decide) ?_
                  refine k_ldS (j := 2) (i := (od o 1)) (q := 0) (v := tr 5 (od o 1)) hx hb hK hP (by decide) (by omega) (by decide) rfl dX11_pass_157 ?_
                  refine lv_isub hx hb dX11_pass_158 ?_
                  refine k_stS (j := 2) (i := (od o 1)) (q := 2) hx hb hK hP hD hS (by decide) (by omega) (by decide) dX11_pass_159 (fun H locs hP7 hD7 hS7 => ?_)
                  clear hP hD hS
                  have hP := hP7
                  have hD := hD7
                  have hS := hS7
                  clear hP7 hD7 hS7
                  rw [sm_Qu] at hP hD
                  replace hP : va_P D CLS (([(ob 3, .inl (g 4, tn 3, .inr (.inr (.inr (.inr (bld (ad 3) (tn 3))))))), (sm, .inr (9, [.int c2.1.1, .int c2.1.2.1, .int c2.1.2.2.1, .int c2.2.1, .ref (ob 0), .ref (ob 1), .ref (ob 2), .ref (ob 3), .ref (ob 4)])), (ob 0, .inl (g 4, tn 0, .inr (.inr (.inr (.inr (bld (ad 0) (tn 0))))))), (ob 1, .inl (g 4, tn 1, .inr (.inr (.inr (.inr (bld (ad 1) (tn 1))))))), (ob 2, .inl (g 4, tn 2, .inr (.inr (.inr (.inr (bld (ad 2) (tn 2))))))), (ob 4, .inl (g 4, tn 4, .inr (.inr (.inr (.inr (bld (ad 4) (tn 4)))))))] : va_W) ++ simW (g 0) ad tn (simM tr od (uQu (uBe (uWk c2 o 0) (od o 1) (nI (od o 2))) (od o 1) (((tr 2 i) * 3) - (tr 5 (od o 1)))))) H := hP
                  replace hD : va_D A (([(ob 3, .inl (g 4, tn 3, .inr (.inr (.inr (.inr (bld (ad 3) (tn 3))))))), (sm, .inr (9, [.int c2.1.1, .int c2.1.2.1, .int c2.1.2.2.1, .int c2.2.1, .ref (ob 0), .ref (ob 1), .ref (ob 2), .ref (ob 3), .ref (ob 4)])), (ob 0, .inl (g 4, tn 0, .inr (.inr (.inr (.inr (bld (ad 0) (tn 0))))))), (ob 1, .inl (g 4, tn 1, .inr (.inr (.inr (.inr (bld (ad 1) (tn 1))))))), (ob 2, .inl (g 4, tn 2, .inr (.inr (.inr (.inr (bld (ad 2) (tn 2))))))), (ob 4, .inl (g 4, tn 4, .inr (.inr (.inr (.inr (bld (ad 4) (tn 4)))))))] : va_W) ++ simW (g 0) ad tn (simM tr od (uQu (uBe (uWk c2 o 0) (od o 1) (nI (od o 2))) (od o 1) (((tr 2 i) * 3) - (tr 5 (od o 1)))))) := hD
                  refine lv_iload hx hb dX11_pass_160 (lv_at hl 0 rfl) ?_
                  refine lv_if_eq (tgt := 173) hx hb dX11_pass_162 (by decide) (fun c_162 => ?_) (fun c_162 => ?_)
                  · skip
                    refine lv_aload hx hb dX11_pass_173 (lv_at hl 1 rfl) ?_
                    refine lv_iconst (v := 2) hx hb dX11_pass_175 (by decide) ?_
                    refine k_ldS (j := 2) (i := (od o 1)) (q := 2) (v := (uQu (uBe (uWk c2 o 0) (od o 1) (nI (od o 2))) (od o 1) (((tr 2 i) * 3) - (tr 5 (od o 1)))).1.2.2.2.2.1 (od o 1)) hx hb hK hP (by decide) (by omega) (by decide) rfl dX11_pass_176 ?_
                    refine k_topi (show ((uQu (uBe (uWk c2 o 0) (od o 1) (nI (od o 2))) (od o 1) (((tr 2 i) * 3) - (tr 5 (od o 1)))).1.2.2.2.2.1 (od o 1)) = (((tr 2 i) * 3) - (tr 5 (od o 1))) from pk_us) ?_
                    refine lv_iconst (v := 1) hx hb dX11_pass_177 (by decide) ?_
                    refine lv_icmp_ge (tgt := 186) hx hb dX11_pass_178 (by decide) (fun c_178 => ?_) (fun c_178 => ?_)
                    · skip
                      refine lv_aload hx hb dX11_pass_186 (lv_at hl 1 rfl) ?_
                      refine lv_iconst (v := 3) hx hb dX11_pass_188 (by decide) ?_
                      refine lv_iconst (v := 0) hx hb dX11_pass_189 (by decide) ?_
                      refine k_stS (j := 2) (i := (od o 1)) (q := 3) hx hb hK hP hD hS (by decide) (by omega) (by decide) dX11_pass_190 (fun H locs hP7 hD7 hS7 => ?_)
                      clear hP hD hS
                      have hP := hP7
                      have hD := hD7
                      have hS := hS7
                      clear hP7 hD7 hS7
                      rw [sm_Wo] at hP hD
                      replace hP : va_P D CLS (([(ob 3, .inl (g 4, tn 3, .inr (.inr (.inr (.inr (bld (ad 3) (tn 3))))))), (sm, .inr (9, [.int c2.1.1, .int c2.1.2.1, .int c2.1.2.2.1, .int c2.2.1, .ref (ob 0), .ref (ob 1), .ref (ob 2), .ref (ob 3), .ref (ob 4)])), (ob 0, .inl (g 4, tn 0, .inr (.inr (.inr (.inr (bld (ad 0) (tn 0))))))), (ob 1, .inl (g 4, tn 1, .inr (.inr (.inr (.inr (bld (ad 1) (tn 1))))))), (ob 2, .inl (g 4, tn 2, .inr (.inr (.inr (.inr (bld (ad 2) (tn 2))))))), (ob 4, .inl (g 4, tn 4, .inr (.inr (.inr (.inr (bld (ad 4) (tn 4)))))))] : va_W) ++ simW (g 0) ad tn (simM tr od (uWo (uQu (uBe (uWk c2 o 0) (od o 1) (nI (od o 2))) (od o 1) (((tr 2 i) * 3) - (tr 5 (od o 1)))) (od o 1) 0))) H := hP
                      replace hD : va_D A (([(ob 3, .inl (g 4, tn 3, .inr (.inr (.inr (.inr (bld (ad 3) (tn 3))))))), (sm, .inr (9, [.int c2.1.1, .int c2.1.2.1, .int c2.1.2.2.1, .int c2.2.1, .ref (ob 0), .ref (ob 1), .ref (ob 2), .ref (ob 3), .ref (ob 4)])), (ob 0, .inl (g 4, tn 0, .inr (.inr (.inr (.inr (bld (ad 0) (tn 0))))))), (ob 1, .inl (g 4, tn 1, .inr (.inr (.inr (.inr (bld (ad 1) (tn 1))))))), (ob 2, .inl (g 4, tn 2, .inr (.inr (.inr (.inr (bld (ad 2) (tn 2))))))), (ob 4, .inl (g 4, tn 4, .inr (.inr (.inr (.inr (bld (ad 4) (tn 4)))))))] : va_W) ++ simW (g 0) ad tn (simM tr od (uWo (uQu (uBe (uWk c2 o 0) (od o 1) (nI (od o 2))) (od o 1) (((tr 2 i) * 3) - (tr 5 (od o 1)))) (od o 1) 0))) := hD
                      refine lv_aload_n hx hb dX11_pass_191 rfl (lv_at hl 4 rfl) ?_
                      refine va_get (D := D) (ci := 9) (v := .ref (ob 1)) (C := RX11) (T := TX11) (N := 9) hx hb hts in_X11 hown hK hP 1 rfl rfl 5 (by decide) (hts _ w_1217) (fun _ h9 => h9) rfl dX11_pass_192 ?_
                      refine lv_iload_n hx hb dX11_pass_195 rfl (lv_at hl 6 rfl) ?_
                      refine k_aldB (i := i) hx hb hK hP 3 rfl (by omega) (Nat.le_refl _) (by omega) dX11_pass_196 ?_
                      refine lv_iconst (v := 3) hx hb dX11_pass_197 (by decide) ?_
                      refine lv_dup2_11 hx hb dX11_pass_198 rfl rfl ?_
                      refine k_ldS (j := 1) (i := i) (q := 3) (v := (uWo (uQu (uBe (uWk c2 o 0) (od o 1) (nI (od o 2))) (od o 1) (((tr 2 i) * 3) - (tr 5 (od o 1)))) (od o 1) 0).2.2.2 i) hx hb hK hP (by decide) (by omega) (by decide) rfl dX11_pass_199 ?_
                      refine k_topi (show ((uWo (uQu (uBe (uWk c2 o 0) (od o 1) (nI (od o 2))) (od o 1) (((tr 2 i) * 3) - (tr 5 (od o 1)))) (od o 1) 0).2.2.2 i) = (c2.2.2.2 i) from rfl) ?_
                      refine lv_iconst (v := 1) hx hb dX11_pass_200 (by decide) ?_
                      refine lv_iadd hx hb dX11_pass_201 ?_
                      refine k_stS (j := 1) (i := i) (q := 3) hx hb hK hP hD hS (by decide) (by omega) (by decide) dX11_pass_202 (fun H locs hP7 hD7 hS7 => ?_)
                      clear hP hD hS
                      have hP := hP7
                      have hD := hD7
                      have hS := hS7
                      clear hP7 hD7 hS7
                      rw [sm_Cb] at hP hD
                      replace hP : va_P D CLS (([(ob 3, .inl (g 4, tn 3, .inr (.inr (.inr (.inr (bld (ad 3) (tn 3))))))), (sm, .inr (9, [.int c2.1.1, .int c2.1.2.1, .int c2.1.2.2.1, .int c2.2.1, .ref (ob 0), .ref (ob 1), .ref (ob 2), .ref (ob 3), .ref (ob 4)])), (ob 0, .inl (g 4, tn 0, .inr (.inr (.inr (.inr (bld (ad 0) (tn 0))))))), (ob 1, .inl (g 4, tn 1, .inr (.inr (.inr (.inr (bld (ad 1) (tn 1))))))), (ob 2, .inl (g 4, tn 2, .inr (.inr (.inr (.inr (bld (ad 2) (tn 2))))))), (ob 4, .inl (g 4, tn 4, .inr (.inr (.inr (.inr (bld (ad 4) (tn 4)))))))] : va_W) ++ simW (g 0) ad tn (simM tr od (uCb (uWo (uQu (uBe (uWk c2 o 0) (od o 1) (nI (od o 2))) (od o 1) (((tr 2 i) * 3) - (tr 5 (od o 1)))) (od o 1) 0) i ((c2.2.2.2 i) + 1)))) H := hP
                      replace hD : va_D A (([(ob 3, .inl (g 4, tn 3, .inr (.inr (.inr (.inr (bld (ad 3) (tn 3))))))), (sm, .inr (9, [.int c2.1.1, .int c2.1.2.1, .int c2.1.2.2.1, .int c2.2.1, .ref (ob 0), .ref (ob 1), .ref (ob 2), .ref (ob 3), .ref (ob 4)])), (ob 0, .inl (g 4, tn 0, .inr (.inr (.inr (.inr (bld (ad 0) (tn 0))))))), (ob 1, .inl (g 4, tn 1, .inr (.inr (.inr (.inr (bld (ad 1) (tn 1))))))), (ob 2, .inl (g 4, tn 2, .inr (.inr (.inr (.inr (bld (ad 2) (tn 2))))))), (ob 4, .inl (g 4, tn 4, .inr (.inr (.inr (.inr (bld (ad 4) (tn 4)))))))] : va_W) ++ simW (g 0) ad tn (simM tr od (uCb (uWo (uQu (uBe (uWk c2 o 0) (od o 1) (nI (od o 2))) (od o 1) (((tr 2 i) * 3) - (tr 5 (od o 1)))) (od o 1) 0) i ((c2.2.2.2 i) + 1)))) := hD
                      refine lv_aload_n hx hb dX11_pass_203 rfl (lv_at hl 4 rfl) ?_
                      refine lv_dup hx hb dX11_pass_204 rfl ?_
                      refine va_get (D := D) (ci := 9) (v := .int c2.2.1) (C := RX11) (T := TX11) (N := 9) hx hb hts in_X11 hown hK hP 1 rfl rfl 3 (by decide) (hts _ w_1214) (fun _ h9 => h9) rfl dX11_pass_205 ?_
                      refine lv_iconst (v := 1) hx hb dX11_pass_208 (by decide) ?_
                      refine lv_iadd hx hb dX11_pass_209 ?_
                      refine va_put (D := D) (ci := 9) (v := .int (c2.2.1 + 1)) (ty := .int) (C := RX11) (T := TX11) (N := 9) hx hb hts in_X11 tyX11 tyX11_ok nmX11 hown hK hP hD hS 1 rfl rfl 3 (by decide) (hts _ w_1214) (fun _ h9 => h9) rfl (by decide +kernel) rfl rfl (Nat.le_of_ble_eq_true rfl) dX11_pass_210 (fun H locs hP7 hD7 hS7 => ?_)
                      clear hP hD hS
                      have hP := hP7
                      have hD := hD7
                      have hS := hS7
                      clear hP7 hD7 hS7
                      replace hP : va_P D CLS (([(ob 3, .inl (g 4, tn 3, .inr (.inr (.inr (.inr (bld (ad 3) (tn 3))))))), (sm, .inr (9, [.int c2.1.1, .int c2.1.2.1, .int c2.1.2.2.1, .int (c2.2.1 + 1), .ref (ob 0), .ref (ob 1), .ref (ob 2), .ref (ob 3), .ref (ob 4)])), (ob 0, .inl (g 4, tn 0, .inr (.inr (.inr (.inr (bld (ad 0) (tn 0))))))), (ob 1, .inl (g 4, tn 1, .inr (.inr (.inr (.inr (bld (ad 1) (tn 1))))))), (ob 2, .inl (g 4, tn 2, .inr (.inr (.inr (.inr (bld (ad 2) (tn 2))))))), (ob 4, .inl (g 4, tn 4, .inr (.inr (.inr (.inr (bld (ad 4) (tn 4)))))))] : va_W) ++ simW (g 0) ad tn (simM tr od (uCb (uWo (uQu (uBe (uWk c2 o 0) (od o 1) (nI (od o 2))) (od o 1) (((tr 2 i) * 3) - (tr 5 (od o 1)))) (od o 1) 0) i ((c2.2.2.2 i) + 1)))) H := hP
                      replace hD : va_D A (([(ob 3, .inl (g 4, tn 3, .inr (.inr (.inr (.inr (bld (ad 3) (tn 3))))))), (sm, .inr (9, [.int c2.1.1, .int c2.1.2.1, .int c2.1.2.2.1, .int (c2.2.1 + 1), .ref (ob 0), .ref (ob 1), .ref (ob 2), .ref (ob 3), .ref (ob 4)])), (ob 0, .inl (g 4, tn 0, .inr (.inr (.inr (.inr (bld (ad 0) (tn 0))))))), (ob 1, .inl (g 4, tn 1, .inr (.inr (.inr (.inr (bld (ad 1) (tn 1))))))), (ob 2, .inl (g 4, tn 2, .inr (.inr (.inr (.inr (bld (ad 2) (tn 2))))))), (ob 4, .inl (g 4, tn 4, .inr (.inr (.inr (.inr (bld (ad 4) (tn 4)))))))] : va_W) ++ simW (g 0) ad tn (simM tr od (uCb (uWo (uQu (uBe (uWk c2 o 0) (od o 1) (nI (od o 2))) (od o 1) (((tr 2 i) * 3) - (tr 5 (od o 1)))) (od o 1) 0) i ((c2.2.2.2 i) + 1)))) := hD
                      rw [← sm_All (c := uCb (uWo (uQu (uBe (uWk c2 o 0) (od o 1) (nI (od o 2))) (od o 1) (((tr 2 i) * 3) - (tr 5 (od o 1)))) (od o 1) 0) i ((c2.2.2.2 i) + 1)) (v := (c2.2.1 + 1))] at hP hD
                      replace hP : va_P D CLS (([(ob 3, .inl (g 4, tn 3, .inr (.inr (.inr (.inr (bld (ad 3) (tn 3))))))), (sm, .inr (9, [.int c2.1.1, .int c2.1.2.1, .int c2.1.2.2.1, .int (c2.2.1 + 1), .ref (ob 0), .ref (ob 1), .ref (ob 2), .ref (ob 3), .ref (ob 4)])), (ob 0, .inl (g 4, tn 0, .inr (.inr (.inr (.inr (bld (ad 0) (tn 0))))))), (ob 1, .inl (g 4, tn 1, .inr (.inr (.inr (.inr (bld (ad 1) (tn 1))))))), (ob 2, .inl (g 4, tn 2, .inr (.inr (.inr (.inr (bld (ad 2) (tn 2))))))), (ob 4, .inl (g 4, tn 4, .inr (.inr (.inr (.inr (bld (ad 4) (tn 4)))))))] : va_W) ++ simW (g 0) ad tn (simM tr od (uAll (uCb (uWo (uQu (uBe (uWk c2 o 0) (od o 1) (nI (od o 2))) (od o 1) (((tr 2 i) * 3) - (tr 5 (od o 1)))) (od o 1) 0) i ((c2.2.2.2 i) + 1)) (c2.2.1 + 1)))) H := hP
                      replace hD : va_D A (([(ob 3, .inl (g 4, tn 3, .inr (.inr (.inr (.inr (bld (ad 3) (tn 3))))))), (sm, .inr (9, [.int c2.1.1, .int c2.1.2.1, .int c2.1.2.2.1, .int (c2.2.1 + 1), .ref (ob 0), .ref (ob 1), .ref (ob 2), .ref (ob 3), .ref (ob 4)])), (ob 0, .inl (g 4, tn 0, .inr (.inr (.inr (.inr (bld (ad 0) (tn 0))))))), (ob 1, .inl (g 4, tn 1, .inr (.inr (.inr (.inr (bld (ad 1) (tn 1))))))), (ob 2, .inl (g 4, tn 2, .inr (.inr (.inr (.inr (bld (ad 2) (tn 2))))))), (ob 4, .inl (g 4, tn 4, .inr (.inr (.inr (.inr (bld (ad 4) (tn 4)))))))] : va_W) ++ simW (g 0) ad tn (simM tr od (uAll (uCb (uWo (uQu (uBe (uWk c2 o 0) (od o 1) (nI (od o 2))) (od o 1) (((tr 2 i) * 3) - (tr 5 (od o 1)))) (od o 1) 0) i ((c2.2.2.2 i) + 1)) (c2.2.1 + 1)))) := hD
                      refine lv_iinc (v := nI (i + 1)) (lv' := [(2, .int (nI (i + 1))), (6, .int 0), (5, .ref (ad 2 (od o 1))), (4, .ref (ad 4 o)), (3, .int (nI o)), (0, .ref sm), (1, .int (-1))]) hx hb dX11_pass_213 hl (k := 6) rfl (nI_1 i) (by decide) rfl (fun ls hl => ?_)
                      refine lv_goto (tgt := 2) hx hb dX11_pass_216 (by decide) ?_
                      exact ih_2  (i + 1) (uAll (uCb (uWo (uQu (uBe (uWk c2 o 0) (od o 1) (nI (od o 2))) (od o 1) (((tr 2 i) * 3) - (tr 5 (od o 1)))) (od o 1) 0) i ((c2.2.2.2 i) + 1)) (c2.2.1 + 1)) (by omega) (by omega) (by first | exact pc_no hO hC2 (by omega) hc (Int32.not_le.mp c_27) | exact pc_yes hO (by omega) ho1 hc ho9 (pw_a hoo ho2 (by omega) (by omega) (by omega) (by omega) c_64 (Int32.not_le.mp c_122)) | exact pc_yes hO (by omega) ho1 hc ho9 (pw_b hoo ho2 (by omega) (by omega) (by omega) (by omega) c_64 (Int32.not_le.mp c_122)) | exact pc_yes hO (by omega) ho1 hc ho9 (pw_d hoo ho2 (by omega) (by omega) (by omega) (by omega) c_64 (Int32.not_lt.mpr c_122) (Or.inr ⟨Int32.not_le.mp c_178, rfl⟩)) | exact pc_yes hO (by omega) ho1 hc ho9 (pw_d hoo ho2 (by omega) (by omega) (by omega) (by omega) c_64 (Int32.not_lt.mpr c_122) (Or.inl ⟨Int32.not_lt.mpr c_178, rfl⟩)) | exact pc_yes hO (by omega) ho1 hc ho9 (pw_c hoo ho2 (by omega) (by omega) (by omega) (by omega) c_64 (Int32.not_lt.mpr c_122) (Or.inr ⟨Int32.not_le.mp c_178, rfl⟩)) | exact pc_yes hO (by omega) ho1 hc ho9 (pw_c hoo ho2 (by omega) (by omega) (by omega) (by omega) c_64 (Int32.not_lt.mpr c_122) (Or.inl ⟨Int32.not_lt.mpr c_178, rfl⟩))) _ _ (va_P.part hP [1, 2, 3, 4, 0, 5] rfl) (hD.part [1, 2, 3, 4, 0, 5] (by decide +kernel) rfl) hS ls (lv_sub hl [5, 6, 0] rfl)
                    · skip
                      refine lv_aload hx hb dX11_pass_181 (lv_at hl 1 rfl) ?_
                      refine lv_iconst (v := 2) hx hb dX11_pass_183 (by decide) ?_
                      refine lv_iconst (v := 1) hx hb dX11_pass_184 (by decide) ?_
                      refine k_stS (j := 2) (i := (od o 1)) (q := 2) hx hb hK hP hD hS (by decide) (by omega) (by decide) dX11_pass_185 (fun H locs hP7 hD7 hS7 => ?_)
                      clear hP hD hS
                      have hP := hP7
                      have hD := hD7
                      have hS := hS7
                      clear hP7 hD7 hS7
                      rw [sm_Qu2] at hP hD
                      replace hP : va_P D CLS (([(ob 3, .inl (g 4, tn 3, .inr (.inr (.inr (.inr (bld (ad 3) (tn 3))))))), (sm, .inr (9, [.int c2.1.1, .int c2.1.2.1, .int c2.1.2.2.1, .int c2.2.1, .ref (ob 0), .ref (ob 1), .ref (ob 2), .ref (ob 3), .ref (ob 4)])), (ob 0, .inl (g 4, tn 0, .inr (.inr (.inr (.inr (bld (ad 0) (tn 0))))))), (ob 1, .inl (g 4, tn 1, .inr (.inr (.inr (.inr (bld (ad 1) (tn 1))))))), (ob 2, .inl (g 4, tn 2, .inr (.inr (.inr (.inr (bld (ad 2) (tn 2))))))), (ob 4, .inl (g 4, tn 4, .inr (.inr (.inr (.inr (bld (ad 4) (tn 4)))))))] : va_W) ++ simW (g 0) ad tn (simM tr od (uQu (uBe (uWk c2 o 0) (od o 1) (nI (od o 2))) (od o 1) 1))) H := hP
                      replace hD : va_D A (([(ob 3, .inl (g 4, tn 3, .inr (.inr (.inr (.inr (bld (ad 3) (tn 3))))))), (sm, .inr (9, [.int c2.1.1, .int c2.1.2.1, .int c2.1.2.2.1, .int c2.2.1, .ref (ob 0), .ref (ob 1), .ref (ob 2), .ref (ob 3), .ref (ob 4)])), (ob 0, .inl (g 4, tn 0, .inr (.inr (.inr (.inr (bld (ad 0) (tn 0))))))), (ob 1, .inl (g 4, tn 1, .inr (.inr (.inr (.inr (bld (ad 1) (tn 1))))))), (ob 2, .inl (g 4, tn 2, .inr (.inr (.inr (.inr (bld (ad 2) (tn 2))))))), (ob 4, .inl (g 4, tn 4, .inr (.inr (.inr (.inr (bld (ad 4) (tn 4)))))))] : va_W) ++ simW (g 0) ad tn (simM tr od (uQu (uBe (uWk c2 o 0) (od o 1) (nI (od o 2))) (od o 1) 1))) := hD
                      refine lv_aload hx hb dX11_pass_186 (lv_at hl 1 rfl) ?_
                      refine lv_iconst (v := 3) hx hb dX11_pass_188 (by decide) ?_
                      refine lv_iconst (v := 0) hx hb dX11_pass_189 (by decide) ?_
                      refine k_stS (j := 2) (i := (od o 1)) (q := 3) hx hb hK hP hD hS (by decide) (by omega) (by decide) dX11_pass_190 (fun H locs hP7 hD7 hS7 => ?_)
                      clear hP hD hS
                      have hP := hP7
                      have hD := hD7
                      have hS := hS7
                      clear hP7 hD7 hS7
                      rw [sm_Wo] at hP hD
                      replace hP : va_P D CLS (([(ob 3, .inl (g 4, tn 3, .inr (.inr (.inr (.inr (bld (ad 3) (tn 3))))))), (sm, .inr (9, [.int c2.1.1, .int c2.1.2.1, .int c2.1.2.2.1, .int c2.2.1, .ref (ob 0), .ref (ob 1), .ref (ob 2), .ref (ob 3), .ref (ob 4)])), (ob 0, .inl (g 4, tn 0, .inr (.inr (.inr (.inr (bld (ad 0) (tn 0))))))), (ob 1, .inl (g 4, tn 1, .inr (.inr (.inr (.inr (bld (ad 1) (tn 1))))))), (ob 2, .inl (g 4, tn 2, .inr (.inr (.inr (.inr (bld (ad 2) (tn 2))))))), (ob 4, .inl (g 4, tn 4, .inr (.inr (.inr (.inr (bld (ad 4) (tn 4)))))))] : va_W) ++ simW (g 0) ad tn (simM tr od (uWo (uQu (uBe (uWk c2 o 0) (od o 1) (nI (od o 2))) (od o 1) 1) (od o 1) 0))) H := hP
                      replace hD : va_D A (([(ob 3, .inl (g 4, tn 3, .inr (.inr (.inr (.inr (bld (ad 3) (tn 3))))))), (sm, .inr (9, [.int c2.1.1, .int c2.1.2.1, .int c2.1.2.2.1, .int c2.2.1, .ref (ob 0), .ref (ob 1), .ref (ob 2), .ref (ob 3), .ref (ob 4)])), (ob 0, .inl (g 4, tn 0, .inr (.inr (.inr (.inr (bld (ad 0) (tn 0))))))), (ob 1, .inl (g 4, tn 1, .inr (.inr (.inr (.inr (bld (ad 1) (tn 1))))))), (ob 2, .inl (g 4, tn 2, .inr (.inr (.inr (.inr (bld (ad 2) (tn 2))))))), (ob 4, .inl (g 4, tn 4, .inr (.inr (.inr (.inr (bld (ad 4) (tn 4)))))))] : va_W) ++ simW (g 0) ad tn (simM tr od (uWo (uQu (uBe (uWk c2 o 0) (od o 1) (nI (od o 2))) (od o 1) 1) (od o 1) 0))) := hD
                      refine lv_aload_n hx hb dX11_pass_191 rfl (lv_at hl 4 rfl) ?_
                      refine va_get (D := D) (ci := 9) (v := .ref (ob 1)) (C := RX11) (T := TX11) (N := 9) hx hb hts in_X11 hown hK hP 1 rfl rfl 5 (by decide) (hts _ w_1217) (fun _ h9 => h9) rfl dX11_pass_192 ?_
                      refine lv_iload_n hx hb dX11_pass_195 rfl (lv_at hl 6 rfl) ?_
                      refine k_aldB (i := i) hx hb hK hP 3 rfl (by omega) (Nat.le_refl _) (by omega) dX11_pass_196 ?_
                      refine lv_iconst (v := 3) hx hb dX11_pass_197 (by decide) ?_
                      refine lv_dup2_11 hx hb dX11_pass_198 rfl rfl ?_
                      refine k_ldS (j := 1) (i := i) (q := 3) (v := (uWo (uQu (uBe (uWk c2 o 0) (od o 1) (nI (od o 2))) (od o 1) 1) (od o 1) 0).2.2.2 i) hx hb hK hP (by decide) (by omega) (by decide) rfl dX11_pass_199 ?_
                      refine k_topi (show ((uWo (uQu (uBe (uWk c2 o 0) (od o 1) (nI (od o 2))) (od o 1) 1) (od o 1) 0).2.2.2 i) = (c2.2.2.2 i) from rfl) ?_
                      refine lv_iconst (v := 1) hx hb dX11_pass_200 (by decide) ?_
                      refine lv_iadd hx hb dX11_pass_201 ?_
                      refine k_stS (j := 1) (i := i) (q := 3) hx hb hK hP hD hS (by decide) (by omega) (by decide) dX11_pass_202 (fun H locs hP7 hD7 hS7 => ?_)
                      clear hP hD hS
                      have hP := hP7
                      have hD := hD7
                      have hS := hS7
                      clear hP7 hD7 hS7
                      rw [sm_Cb] at hP hD
                      replace hP : va_P D CLS (([(ob 3, .inl (g 4, tn 3, .inr (.inr (.inr (.inr (bld (ad 3) (tn 3))))))), (sm, .inr (9, [.int c2.1.1, .int c2.1.2.1, .int c2.1.2.2.1, .int c2.2.1, .ref (ob 0), .ref (ob 1), .ref (ob 2), .ref (ob 3), .ref (ob 4)])), (ob 0, .inl (g 4, tn 0, .inr (.inr (.inr (.inr (bld (ad 0) (tn 0))))))), (ob 1, .inl (g 4, tn 1, .inr (.inr (.inr (.inr (bld (ad 1) (tn 1))))))), (ob 2, .inl (g 4, tn 2, .inr (.inr (.inr (.inr (bld (ad 2) (tn 2))))))), (ob 4, .inl (g 4, tn 4, .inr (.inr (.inr (.inr (bld (ad 4) (tn 4)))))))] : va_W) ++ simW (g 0) ad tn (simM tr od (uCb (uWo (uQu (uBe (uWk c2 o 0) (od o 1) (nI (od o 2))) (od o 1) 1) (od o 1) 0) i ((c2.2.2.2 i) + 1)))) H := hP
                      replace hD : va_D A (([(ob 3, .inl (g 4, tn 3, .inr (.inr (.inr (.inr (bld (ad 3) (tn 3))))))), (sm, .inr (9, [.int c2.1.1, .int c2.1.2.1, .int c2.1.2.2.1, .int c2.2.1, .ref (ob 0), .ref (ob 1), .ref (ob 2), .ref (ob 3), .ref (ob 4)])), (ob 0, .inl (g 4, tn 0, .inr (.inr (.inr (.inr (bld (ad 0) (tn 0))))))), (ob 1, .inl (g 4, tn 1, .inr (.inr (.inr (.inr (bld (ad 1) (tn 1))))))), (ob 2, .inl (g 4, tn 2, .inr (.inr (.inr (.inr (bld (ad 2) (tn 2))))))), (ob 4, .inl (g 4, tn 4, .inr (.inr (.inr (.inr (bld (ad 4) (tn 4)))))))] : va_W) ++ simW (g 0) ad tn (simM tr od (uCb (uWo (uQu (uBe (uWk c2 o 0) (od o 1) (nI (od o 2))) (od o 1) 1) (od o 1) 0) i ((c2.2.2.2 i) + 1)))) := hD
                      refine lv_aload_n hx hb dX11_pass_203 rfl (lv_at hl 4 rfl) ?_
                      refine lv_dup hx hb dX11_pass_204 rfl ?_
                      refine va_get (D := D) (ci := 9) (v := .int c2.2.1) (C := RX11) (T := TX11) (N := 9) hx hb hts in_X11 hown hK hP 1 rfl rfl 3 (by decide) (hts _ w_1214) (fun _ h9 => h9) rfl dX11_pass_205 ?_
                      refine lv_iconst (v := 1) hx hb dX11_pass_208 (by decide) ?_
                      refine lv_iadd hx hb dX11_pass_209 ?_
                      refine va_put (D := D) (ci := 9) (v := .int (c2.2.1 + 1)) (ty := .int) (C := RX11) (T := TX11) (N := 9) hx hb hts in_X11 tyX11 tyX11_ok nmX11 hown hK hP hD hS 1 rfl rfl 3 (by decide) (hts _ w_1214) (fun _ h9 => h9) rfl (by decide +kernel) rfl rfl (Nat.le_of_ble_eq_true rfl) dX11_pass_210 (fun H locs hP7 hD7 hS7 => ?_)
                      clear hP hD hS
                      have hP := hP7
                      have hD := hD7
                      have hS := hS7
                      clear hP7 hD7 hS7
                      replace hP : va_P D CLS (([(ob 3, .inl (g 4, tn 3, .inr (.inr (.inr (.inr (bld (ad 3) (tn 3))))))), (sm, .inr (9, [.int c2.1.1, .int c2.1.2.1, .int c2.1.2.2.1, .int (c2.2.1 + 1), .ref (ob 0), .ref (ob 1), .ref (ob 2), .ref (ob 3), .ref (ob 4)])), (ob 0, .inl (g 4, tn 0, .inr (.inr (.inr (.inr (bld (ad 0) (tn 0))))))), (ob 1, .inl (g 4, tn 1, .inr (.inr (.inr (.inr (bld (ad 1) (tn 1))))))), (ob 2, .inl (g 4, tn 2, .inr (.inr (.inr (.inr (bld (ad 2) (tn 2))))))), (ob 4, .inl (g 4, tn 4, .inr (.inr (.inr (.inr (bld (ad 4) (tn 4)))))))] : va_W) ++ simW (g 0) ad tn (simM tr od (uCb (uWo (uQu (uBe (uWk c2 o 0) (od o 1) (nI (od o 2))) (od o 1) 1) (od o 1) 0) i ((c2.2.2.2 i) + 1)))) H := hP
                      replace hD : va_D A (([(ob 3, .inl (g 4, tn 3, .inr (.inr (.inr (.inr (bld (ad 3) (tn 3))))))), (sm, .inr (9, [.int c2.1.1, .int c2.1.2.1, .int c2.1.2.2.1, .int (c2.2.1 + 1), .ref (ob 0), .ref (ob 1), .ref (ob 2), .ref (ob 3), .ref (ob 4)])), (ob 0, .inl (g 4, tn 0, .inr (.inr (.inr (.inr (bld (ad 0) (tn 0))))))), (ob 1, .inl (g 4, tn 1, .inr (.inr (.inr (.inr (bld (ad 1) (tn 1))))))), (ob 2, .inl (g 4, tn 2, .inr (.inr (.inr (.inr (bld (ad 2) (tn 2))))))), (ob 4, .inl (g 4, tn 4, .inr (.inr (.inr (.inr (bld (ad 4) (tn 4)))))))] : va_W) ++ simW (g 0) ad tn (simM tr od (uCb (uWo (uQu (uBe (uWk c2 o 0) (od o 1) (nI (od o 2))) (od o 1) 1) (od o 1) 0) i ((c2.2.2.2 i) + 1)))) := hD
                      rw [← sm_All (c := uCb (uWo (uQu (uBe (uWk c2 o 0) (od o 1) (nI (od o 2))) (od o 1) 1) (od o 1) 0) i ((c2.2.2.2 i) + 1)) (v := (c2.2.1 + 1))] at hP hD
                      replace hP : va_P D CLS (([(ob 3, .inl (g 4, tn 3, .inr (.inr (.inr (.inr (bld (ad 3) (tn 3))))))), (sm, .inr (9, [.int c2.1.1, .int c2.1.2.1, .int c2.1.2.2.1, .int (c2.2.1 + 1), .ref (ob 0), .ref (ob 1), .ref (ob 2), .ref (ob 3), .ref (ob 4)])), (ob 0, .inl (g 4, tn 0, .inr (.inr (.inr (.inr (bld (ad 0) (tn 0))))))), (ob 1, .inl (g 4, tn 1, .inr (.inr (.inr (.inr (bld (ad 1) (tn 1))))))), (ob 2, .inl (g 4, tn 2, .inr (.inr (.inr (.inr (bld (ad 2) (tn 2))))))), (ob 4, .inl (g 4, tn 4, .inr (.inr (.inr (.inr (bld (ad 4) (tn 4)))))))] : va_W) ++ simW (g 0) ad tn (simM tr od (uAll (uCb (uWo (uQu (uBe (uWk c2 o 0) (od o 1) (nI (od o 2))) (od o 1) 1) (od o 1) 0) i ((c2.2.2.2 i) + 1)) (c2.2.1 + 1)))) H := hP
                      replace hD : va_D A (([(ob 3, .inl (g 4, tn 3, .inr (.inr (.inr (.inr (bld (ad 3) (tn 3))))))), (sm, .inr (9, [.int c2.1.1, .int c2.1.2.1, .int c2.1.2.2.1, .int (c2.2.1 + 1), .ref (ob 0), .ref (ob 1), .ref (ob 2), .ref (ob 3), .ref (ob 4)])), (ob 0, .inl (g 4, tn 0, .inr (.inr (.inr (.inr (bld (ad 0) (tn 0))))))), (ob 1, .inl (g 4, tn 1, .inr (.inr (.inr (.inr (bld (ad 1) (tn 1))))))), (ob 2, .inl (g 4, tn 2, .inr (.inr (.inr (.inr (bld (ad 2) (tn 2))))))), (ob 4, .inl (g 4, tn 4, .inr (.inr (.inr (.inr (bld (ad 4) (tn 4)))))))] : va_W) ++ simW (g 0) ad tn (simM tr od (uAll (uCb (uWo (uQu (uBe (uWk c2 o 0) (od o 1) (nI (od o 2))) (od o 1) 1) (od o 1) 0) i ((c2.2.2.2 i) + 1)) (c2.2.1 + 1)))) := hD
                      refine lv_iinc (v := nI (i + 1)) (lv' := [(2, .int (nI (i + 1))), (6, .int 0), (5, .ref (ad 2 (od o 1))), (4, .ref (ad 4 o)), (3, .int (nI o)), (0, .ref sm), (1, .int (-1))]) hx hb dX11_pass_213 hl (k := 6) rfl (nI_1 i) (by decide) rfl (fun ls hl => ?_)
                      refine lv_goto (tgt := 2) hx hb dX11_pass_216 (by decide) ?_
                      exact ih_2  (i + 1) (uAll (uCb (uWo (uQu (uBe (uWk c2 o 0) (od o 1) (nI (od o 2))) (od o 1) 1) (od o 1) 0) i ((c2.2.2.2 i) + 1)) (c2.2.1 + 1)) (by omega) (by omega) (by first | exact pc_no hO hC2 (by omega) hc (Int32.not_le.mp c_27) | exact pc_yes hO (by omega) ho1 hc ho9 (pw_a hoo ho2 (by omega) (by omega) (by omega) (by omega) c_64 (Int32.not_le.mp c_122)) | exact pc_yes hO (by omega) ho1 hc ho9 (pw_b hoo ho2 (by omega) (by omega) (by omega) (by omega) c_64 (Int32.not_le.mp c_122)) | exact pc_yes hO (by omega) ho1 hc ho9 (pw_d hoo ho2 (by omega) (by omega) (by omega) (by omega) c_64 (Int32.not_lt.mpr c_122) (Or.inr ⟨Int32.not_le.mp c_178, rfl⟩)) | exact pc_yes hO (by omega) ho1 hc ho9 (pw_d hoo ho2 (by omega) (by omega) (by omega) (by omega) c_64 (Int32.not_lt.mpr c_122) (Or.inl ⟨Int32.not_lt.mpr c_178, rfl⟩)) | exact pc_yes hO (by omega) ho1 hc ho9 (pw_c hoo ho2 (by omega) (by omega) (by omega) (by omega) c_64 (Int32.not_lt.mpr c_122) (Or.inr ⟨Int32.not_le.mp c_178, rfl⟩)) | exact pc_yes hO (by omega) ho1 hc ho9 (pw_c hoo ho2 (by omega) (by omega) (by omega) (by omega) c_64 (Int32.not_lt.mpr c_122) (Or.inl ⟨Int32.not_lt.mpr c_178, rfl⟩))) _ _ (va_P.part hP [1, 2, 3, 4, 0, 5] rfl) (hD.part [1, 2, 3, 4, 0, 5] (by decide +kernel) rfl) hS ls (lv_sub hl [5, 6, 0] rfl)
                  · skip
                    exact absurd c_162 (by decide)
                · skip
                  refine lv_goto (tgt := 213) hx hb dX11_pass_125 (by decide) ?_
                  refine lv_iinc (v := nI (i + 1)) (lv' := [(2, .int (nI (i + 1))), (6, .int 0), (5, .ref (ad 2 (od o 1))), (4, .ref (ad 4 o)), (3, .int (nI o)), (0, .ref sm), (1, .int (-1))]) hx hb dX11_pass_213 hl (k := 6) rfl (nI_1 i) (by decide) rfl (fun ls hl => ?_)
                  refine lv_goto (tgt := 2) hx hb dX11_pass_216 (by decide) ?_
                  exact ih_2  (i + 1) (uWk c2 o ((c2.2.2.1 o) + ((tr 2 i) * 1))) (by omega) (by omega) (by first | exact pc_no hO hC2 (by omega) hc (Int32.not_le.mp c_27) | exact pc_yes hO (by omega) ho1 hc ho9 (pw_a hoo ho2 (by omega) (by omega) (by omega) (by omega) c_64 (Int32.not_le.mp c_122)) | exact pc_yes hO (by omega) ho1 hc ho9 (pw_b hoo ho2 (by omega) (by omega) (by omega) (by omega) c_64 (Int32.not_le.mp c_122)) | exact pc_yes hO (by omega) ho1 hc ho9 (pw_d hoo ho2 (by omega) (by omega) (by omega) (by omega) c_64 (Int32.not_lt.mpr c_122) (Or.inr ⟨Int32.not_le.mp c_178, rfl⟩)) | exact pc_yes hO (by omega) ho1 hc ho9 (pw_d hoo ho2 (by omega) (by omega) (by omega) (by omega) c_64 (Int32.not_lt.mpr c_122) (Or.inl ⟨Int32.not_lt.mpr c_178, rfl⟩)) | exact pc_yes hO (by omega) ho1 hc ho9 (pw_c hoo ho2 (by omega) (by omega) (by omega) (by omega) c_64 (Int32.not_lt.mpr c_122) (Or.inr ⟨Int32.not_le.mp c_178, rfl⟩)) | exact pc_yes hO (by omega) ho1 hc ho9 (pw_c hoo ho2 (by omega) (by omega) (by omega) (by omega) c_64 (Int32.not_lt.mpr c_122) (Or.inl ⟨Int32.not_lt.mpr c_178, rfl⟩))) _ _ (va_P.part hP [1, 2, 3, 4, 0, 5] rfl) (hD.part [1, 2, 3, 4, 0, 5] (by decide +kernel) rfl) hS ls (lv_sub hl [5, 6, 0] rfl)
              · skip
                exact absurd c_89 (by decide)
            · skip
              refine lv_iconst (v := 1) hx hb dX11_pass_67 (by decide) ?_
              refine lv_goto (tgt := 72) hx hb dX11_pass_68 (by decide) ?_
              refine lv_istore (lv' := [(6, .int 1), (5, .ref (ad 2 (od o 1))), (4, .ref (ad 4 o)), (3, .int (nI o)), (0, .ref sm), (1, .int (-1)), (2, .int (nI i))]) hx hb dX11_pass_72 hl (by decide) rfl (fun ls hl => ?_)
              refine lv_aload hx hb dX11_pass_74 (lv_at hl 2 rfl) ?_
              refine lv_iconst (v := 4) hx hb dX11_pass_76 (by decide) ?_
              refine lv_dup2_11 hx hb dX11_pass_77 rfl rfl ?_
              refine k_ldS (j := 4) (i := o) (q := 4) (v := c2.2.2.1 o) hx hb hK hP (by decide) (by omega) (by decide) rfl dX11_pass_78 ?_
              refine lv_aload_n hx hb dX11_pass_79 rfl (lv_at hl 4 rfl) ?_
              refine va_get (D := D) (ci := 9) (v := .ref (ob 1)) (C := RX11) (T := TX11) (N := 9) hx hb hts in_X11 hown hK hP 1 rfl rfl 5 (by decide) (hts _ w_1217) (fun _ h9 => h9) rfl dX11_pass_80 ?_
              refine lv_iload_n hx hb dX11_pass_83 rfl (lv_at hl 6 rfl) ?_
              refine k_aldB (i := i) hx hb hK hP 3 rfl (by omega) (Nat.le_refl _) (by omega) dX11_pass_84 ?_
              refine lv_iconst (v := 0) hx hb dX11_pass_85 (by decide) ?_
              refine k_ldS (j := 1) (i := i) (q := 0) (v := tr 2 i) hx hb hK hP (by decide) (by omega) (by decide) rfl dX11_pass_86 ?_
              refine lv_iload hx hb dX11_pass_87 (lv_at hl 0 rfl) ?_
              refine lv_if_eq (tgt := 96) hx hb dX11_pass_89 (by decide) (fun c_89 => ?_) (fun c_89 => ?_)
              · skip
                exact absurd c_89 (by decide)
              · skip
                refine lv_iconst (v := 2) hx hb dX11_pass_92 (by decide) ?_
                refine lv_goto (tgt := 97) hx hb dX11_pass_93 (by decide) ?_
                refine lv_imul hx hb dX11_pass_97 ?_
                refine lv_iadd hx hb dX11_pass_98 ?_
                refine k_stS (j := 4) (i := o) (q := 4) hx hb hK hP hD hS (by decide) (by omega) (by decide) dX11_pass_99 (fun H locs hP7 hD7 hS7 => ?_)
                clear hP hD hS
                have hP := hP7
                have hD := hD7
                have hS := hS7
                clear hP7 hD7 hS7
                rw [sm_Wk] at hP hD
                replace hP : va_P D CLS (([(ob 3, .inl (g 4, tn 3, .inr (.inr (.inr (.inr (bld (ad 3) (tn 3))))))), (sm, .inr (9, [.int c2.1.1, .int c2.1.2.1, .int c2.1.2.2.1, .int c2.2.1, .ref (ob 0), .ref (ob 1), .ref (ob 2), .ref (ob 3), .ref (ob 4)])), (ob 0, .inl (g 4, tn 0, .inr (.inr (.inr (.inr (bld (ad 0) (tn 0))))))), (ob 1, .inl (g 4, tn 1, .inr (.inr (.inr (.inr (bld (ad 1) (tn 1))))))), (ob 2, .inl (g 4, tn 2, .inr (.inr (.inr (.inr (bld (ad 2) (tn 2))))))), (ob 4, .inl (g 4, tn 4, .inr (.inr (.inr (.inr (bld (ad 4) (tn 4)))))))] : va_W) ++ simW (g 0) ad tn (simM tr od (uWk c2 o ((c2.2.2.1 o) + ((tr 2 i) * 2))))) H := hP
                replace hD : va_D A (([(ob 3, .inl (g 4, tn 3, .inr (.inr (.inr (.inr (bld (ad 3) (tn 3))))))), (sm, .inr (9, [.int c2.1.1, .int c2.1.2.1, .int c2.1.2.2.1, .int c2.2.1, .ref (ob 0), .ref (ob 1), .ref (ob 2), .ref (ob 3), .ref (ob 4)])), (ob 0, .inl (g 4, tn 0, .inr (.inr (.inr (.inr (bld (ad 0) (tn 0))))))), (ob 1, .inl (g 4, tn 1, .inr (.inr (.inr (.inr (bld (ad 1) (tn 1))))))), (ob 2, .inl (g 4, tn 2, .inr (.inr (.inr (.inr (bld (ad 2) (tn 2))))))), (ob 4, .inl (g 4, tn 4, .inr (.inr (.inr (.inr (bld (ad 4) (tn 4)))))))] : va_W) ++ simW (g 0) ad tn (simM tr od (uWk c2 o ((c2.2.2.1 o) + ((tr 2 i) * 2))))) := hD
                refine lv_aload hx hb dX11_pass_100 (lv_at hl 2 rfl) ?_
                refine lv_iconst (v := 4) hx hb dX11_pass_102 (by decide) ?_
                refine k_ldS (j := 4) (i := o) (q := 4) (v := (uWk c2 o ((c2.2.2.1 o) + ((tr 2 i) * 2))).2.2.1 o) hx hb hK hP (by decide) (by omega) (by decide) rfl dX11_pass_103 ?_
                refine k_topi (show ((uWk c2 o ((c2.2.2.1 o) + ((tr 2 i) * 2))).2.2.1 o) = ((c2.2.2.1 o) + ((tr 2 i) * 2)) from pk_us) ?_
                refine lv_aload hx hb dX11_pass_104 (lv_at hl 1 rfl) ?_
                refine lv_iconst (v := 0) hx hb dX11_pass_106 (by decide) ?_
                refine k_ldS (j := 2) (i := (od o 1)) (q := 0) (v := tr 5 (od o 1)) hx hb hK hP (by decide) (by omega) (by decide) rfl dX11_pass_107 ?_
                refine lv_aload_n hx hb dX11_pass_108 rfl (lv_at hl 4 rfl) ?_
                refine va_get (D := D) (ci := 9) (v := .ref (ob 0)) (C := RX11) (T := TX11) (N := 9) hx hb hts in_X11 hown hK hP 1 rfl rfl 4 (by decide) (hts _ w_1215) (fun _ h9 => h9) rfl dX11_pass_109 ?_
                refine lv_aload hx hb dX11_pass_112 (lv_at hl 2 rfl) ?_
                refine lv_iconst (v := 2) hx hb dX11_pass_114 (by decide) ?_
                refine k_ldS (j := 4) (i := o) (q := 2) (v := nI (od o 2)) hx hb hK hP (by decide) (by omega) (by decide) rfl dX11_pass_115 ?_
                refine k_aldB (i := od o 2) hx hb hK hP 2 rfl (by omega) (Nat.le_refl _) (by omega) dX11_pass_116 ?_
                refine lv_iconst (v := 1) hx hb dX11_pass_117 (by decide) ?_
                refine k_ldS (j := 0) (i := (od o 2)) (q := 1) (v := tr 1 (od o 2)) hx hb hK hP (by decide) (by omega) (by decide) rfl dX11_pass_118 ?_
                refine lv_imul hx hb dX11_pass_119 ?_
                refine lv_iconst (v := 2) hx hb dX11_pass_120 (by decide) ?_
                refine lv_imul hx hb dX11_pass_121 ?_
                refine lv_icmp_ge (tgt := 128) hx hb dX11_pass_122 (by decide) (fun c_122 => ?_) (fun c_122 => ?_)
                · skip
                  refine lv_aload hx hb dX11_pass_128 (lv_at hl 2 rfl) ?_
                  refine lv_iconst (v := 4) hx hb dX11_pass_130 (by decide) ?_
                  refine lv_iconst (v := 0) hx hb dX11_pass_131 (by decide) ?_
                  refine k_stS (j := 4) (i := o) (q := 4) hx hb hK hP hD hS (by decide) (by omega) (by decide) dX11_pass_132 (fun H locs hP7 hD7 hS7 => ?_)
                  clear hP hD hS
                  have hP := hP7
                  have hD := hD7
                  have hS := hS7
                  clear hP7 hD7 hS7
                  rw [sm_Wk2] at hP hD
                  replace hP : va_P D CLS (([(ob 3, .inl (g 4, tn 3, .inr (.inr (.inr (.inr (bld (ad 3) (tn 3))))))), (sm, .inr (9, [.int c2.1.1, .int c2.1.2.1, .int c2.1.2.2.1, .int c2.2.1, .ref (ob 0), .ref (ob 1), .ref (ob 2), .ref (ob 3), .ref (ob 4)])), (ob 0, .inl (g 4, tn 0, .inr (.inr (.inr (.inr (bld (ad 0) (tn 0))))))), (ob 1, .inl (g 4, tn 1, .inr (.inr (.inr (.inr (bld (ad 1) (tn 1))))))), (ob 2, .inl (g 4, tn 2, .inr (.inr (.inr (.inr (bld (ad 2) (tn 2))))))), (ob 4, .inl (g 4, tn 4, .inr (.inr (.inr (.inr (bld (ad 4) (tn 4)))))))] : va_W) ++ simW (g 0) ad tn (simM tr od (uWk c2 o 0))) H := hP
                  replace hD : va_D A (([(ob 3, .inl (g 4, tn 3, .inr (.inr (.inr (.inr (bld (ad 3) (tn 3))))))), (sm, .inr (9, [.int c2.1.1, .int c2.1.2.1, .int c2.1.2.2.1, .int c2.2.1, .ref (ob 0), .ref (ob 1), .ref (ob 2), .ref (ob 3), .ref (ob 4)])), (ob 0, .inl (g 4, tn 0, .inr (.inr (.inr (.inr (bld (ad 0) (tn 0))))))), (ob 1, .inl (g 4, tn 1, .inr (.inr (.inr (.inr (bld (ad 1) (tn 1))))))), (ob 2, .inl (g 4, tn 2, .inr (.inr (.inr (.inr (bld (ad 2) (tn 2))))))), (ob 4, .inl (g 4, tn 4, .inr (.inr (.inr (.inr (bld (ad 4) (tn 4)))))))] : va_W) ++ simW (g 0) ad tn (simM tr od (uWk c2 o 0))) := hD
                  refine lv_aload hx hb dX11_pass_133 (lv_at hl 1 rfl) ?_
                  refine lv_iconst (v := 1) hx hb dX11_pass_135 (by decide) ?_
                  refine lv_aload hx hb dX11_pass_136 (lv_at hl 2 rfl) ?_
                  refine lv_iconst (v := 2) hx hb dX11_pass_138 (by decide) ?_
                  refine k_ldS (j := 4) (i := o) (q := 2) (v := nI (od o 2)) hx hb hK hP (by decide) (by omega) (by decide) rfl dX11_pass_139 ?_
                  refine k_stS (j := 2) (i := (od o 1)) (q := 1) hx hb hK hP hD hS (by decide) (by omega) (by decide) dX11_pass_140 (fun H locs hP7 hD7 hS7 => ?_)
                  clear hP hD hS
                  have hP := hP7
                  have hD := hD7
                  have hS := hS7
                  clear hP7 hD7 hS7
                  rw [sm_Be] at hP hD
                  replace hP : va_P D CLS (([(ob 3, .inl (g 4, tn 3, .inr (.inr (.inr (.inr (bld (ad 3) (tn 3))))))), (sm, .inr (9, [.int c2.1.1, .int c2.1.2.1, .int c2.1.2.2.1, .int c2.2.1, .ref (ob 0), .ref (ob 1), .ref (ob 2), .ref (ob 3), .ref (ob 4)])), (ob 0, .inl (g 4, tn 0, .inr (.inr (.inr (.inr (bld (ad 0) (tn 0))))))), (ob 1, .inl (g 4, tn 1, .inr (.inr (.inr (.inr (bld (ad 1) (tn 1))))))), (ob 2, .inl (g 4, tn 2, .inr (.inr (.inr (.inr (bld (ad 2) (tn 2))))))), (ob 4, .inl (g 4, tn 4, .inr (.inr (.inr (.inr (bld (ad 4) (tn 4)))))))] : va_W) ++ simW (g 0) ad tn (simM tr od (uBe (uWk c2 o 0) (od o 1) (nI (od o 2))))) H := hP
                  replace hD : va_D A (([(ob 3, .inl (g 4, tn 3, .inr (.inr (.inr (.inr (bld (ad 3) (tn 3))))))), (sm, .inr (9, [.int c2.1.1, .int c2.1.2.1, .int c2.1.2.2.1, .int c2.2.1, .ref (ob 0), .ref (ob 1), .ref (ob 2), .ref (ob 3), .ref (ob 4)])), (ob 0, .inl (g 4, tn 0, .inr (.inr (.inr (.inr (bld (ad 0) (tn 0))))))), (ob 1, .inl (g 4, tn 1, .inr (.inr (.inr (.inr (bld (ad 1) (tn 1))))))), (ob 2, .inl (g 4, tn 2, .inr (.inr (.inr (.inr (bld (ad 2) (tn 2))))))), (ob 4, .inl (g 4, tn 4, .inr (.inr (.inr (.inr (bld (ad 4) (tn 4)))))))] : va_W) ++ simW (g 0) ad tn (simM tr od (uBe (uWk c2 o 0) (od o 1) (nI (od o 2))))) := hD
                  refine lv_aload hx hb dX11_pass_141 (lv_at hl 1 rfl) ?_
                  refine lv_iconst (v := 2) hx hb dX11_pass_143 (by decide) ?_
                  refine lv_aload_n hx hb dX11_pass_144 rfl (lv_at hl 4 rfl) ?_
                  refine va_get (D := D) (ci := 9) (v := .ref (ob 1)) (C := RX11) (T := TX11) (N := 9) hx hb hts in_X11 hown hK hP 1 rfl rfl 5 (by decide) (hts _ w_1217) (fun _ h9 => h9) rfl dX11_pass_145 ?_
                  refine lv_iload_n hx hb dX11_pass_148 rfl (lv_at hl 6 rfl) ?_
                  refine k_aldB (i := i) hx hb hK hP 3 rfl (by omega) (Nat.le_refl _) (by omega) dX11_pass_149 ?_
                  refine lv_iconst (v := 0) hx hb dX11_pass_150 (by decide) ?_
                  refine k_ldS (j := 1) (i := i) (q := 0) (v := tr 2 i) hx hb hK hP (by decide) (by omega) (by decide) rfl dX11_pass_151 ?_
                  refine lv_iconst (v := 3) hx hb dX11_pass_152 (by decide) ?_
                  refine lv_imul hx hb dX11_pass_153 ?_
                  refine lv_aload hx hb dX11_pass_154 (lv_at hl 1 rfl) ?_
                  refine lv_iconst (v := 0) hx hb dX11_pass_156 (by decide) ?_
                  refine k_ldS (j := 2) (i := (od o 1)) (q := 0) (v := tr 5 (od o 1)) hx hb hK hP (by decide) (by omega) (by decide) rfl dX11_pass_157 ?_
                  refine lv_isub hx hb dX11_pass_158 ?_
                  refine k_stS (j := 2) (i := (od o 1)) (q := 2) hx hb hK hP hD hS (by decide) (by omega) (by decide) dX11_pass_159 (fun H locs hP7 hD7 hS7 => ?_)
                  clear hP hD hS
                  have hP := hP7
                  have hD := hD7
                  have hS := hS7
                  clear hP7 hD7 hS7
                  rw [sm_Qu] at hP hD
                  replace hP : va_P D CLS (([(ob 3, .inl (g 4, tn 3, .inr (.inr (.inr (.inr (bld (ad 3) (tn 3))))))), (sm, .inr (9, [.int c2.1.1, .int c2.1.2.1, .int c2.1.2.2.1, .int c2.2.1, .ref (ob 0), .ref (ob 1), .ref (ob 2), .ref (ob 3), .ref (ob 4)])), (ob 0, .inl (g 4, tn 0, .inr (.inr (.inr (.inr (bld (ad 0) (tn 0))))))), (ob 1, .inl (g 4, tn 1, .inr (.inr (.inr (.inr (bld (ad 1) (tn 1))))))), (ob 2, .inl (g 4, tn 2, .inr (.inr (.inr (.inr (bld (ad 2) (tn 2))))))), (ob 4, .inl (g 4, tn 4, .inr (.inr (.inr (.inr (bld (ad 4) (tn 4)))))))] : va_W) ++ simW (g 0) ad tn (simM tr od (uQu (uBe (uWk c2 o 0) (od o 1) (nI (od o 2))) (od o 1) (((tr 2 i) * 3) - (tr 5 (od o 1)))))) H := hP
                  replace hD : va_D A (([(ob 3, .inl (g 4, tn 3, .inr (.inr (.inr (.inr (bld (ad 3) (tn 3))))))), (sm, .inr (9, [.int c2.1.1, .int c2.1.2.1, .int c2.1.2.2.1, .int c2.2.1, .ref (ob 0), .ref (ob 1), .ref (ob 2), .ref (ob 3), .ref (ob 4)])), (ob 0, .inl (g 4, tn 0, .inr (.inr (.inr (.inr (bld (ad 0) (tn 0))))))), (ob 1, .inl (g 4, tn 1, .inr (.inr (.inr (.inr (bld (ad 1) (tn 1))))))), (ob 2, .inl (g 4, tn 2, .inr (.inr (.inr (.inr (bld (ad 2) (tn 2))))))), (ob 4, .inl (g 4, tn 4, .inr (.inr (.inr (.inr (bld (ad 4) (tn 4)))))))] : va_W) ++ simW (g 0) ad tn (simM tr od (uQu (uBe (uWk c2 o 0) (od o 1) (nI (od o 2))) (od o 1) (((tr 2 i) * 3) - (tr 5 (od o 1)))))) := hD
                  refine lv_iload hx hb dX11_pass_160 (lv_at hl 0 rfl) ?_
                  refine lv_if_eq (tgt := 173) hx hb dX11_pass_162 (by decide) (fun c_162 => ?_) (fun c_162 => ?_)
                  · skip
                    exact absurd c_162 (by decide)
                  · skip
                    refine lv_aload hx hb dX11_pass_165 (lv_at hl 1 rfl) ?_
                    refine lv_iconst (v := 2) hx hb dX11_pass_167 (by decide) ?_
                    refine lv_dup2_11 hx hb dX11_pass_168 rfl rfl ?_
                    refine k_ldS (j := 2) (i := (od o 1)) (q := 2) (v := (uQu (uBe (uWk c2 o 0) (od o 1) (nI (od o 2))) (od o 1) (((tr 2 i) * 3) - (tr 5 (od o 1)))).1.2.2.2.2.1 (od o 1)) hx hb hK hP (by decide) (by omega) (by decide) rfl dX11_pass_169 ?_
                    refine k_topi (show ((uQu (uBe (uWk c2 o 0) (od o 1) (nI (od o 2))) (od o 1) (((tr 2 i) * 3) - (tr 5 (od o 1)))).1.2.2.2.2.1 (od o 1)) = (((tr 2 i) * 3) - (tr 5 (od o 1))) from pk_us) ?_
                    refine lv_iconst (v := 5) hx hb dX11_pass_170 (by decide) ?_
                    refine lv_iadd hx hb dX11_pass_171 ?_
                    refine k_stS (j := 2) (i := (od o 1)) (q := 2) hx hb hK hP hD hS (by decide) (by omega) (by decide) dX11_pass_172 (fun H locs hP7 hD7 hS7 => ?_)
                    clear hP hD hS
                    have hP := hP7
                    have hD := hD7
                    have hS := hS7
                    clear hP7 hD7 hS7
                    rw [sm_Qu2] at hP hD
                    replace hP : va_P D CLS (([(ob 3, .inl (g 4, tn 3, .inr (.inr (.inr (.inr (bld (ad 3) (tn 3))))))), (sm, .inr (9, [.int c2.1.1, .int c2.1.2.1, .int c2.1.2.2.1, .int c2.2.1, .ref (ob 0), .ref (ob 1), .ref (ob 2), .ref (ob 3), .ref (ob 4)])), (ob 0, .inl (g 4, tn 0, .inr (.inr (.inr (.inr (bld (ad 0) (tn 0))))))), (ob 1, .inl (g 4, tn 1, .inr (.inr (.inr (.inr (bld (ad 1) (tn 1))))))), (ob 2, .inl (g 4, tn 2, .inr (.inr (.inr (.inr (bld (ad 2) (tn 2))))))), (ob 4, .inl (g 4, tn 4, .inr (.inr (.inr (.inr (bld (ad 4) (tn 4)))))))] : va_W) ++ simW (g 0) ad tn (simM tr od (uQu (uBe (uWk c2 o 0) (od o 1) (nI (od o 2))) (od o 1) ((((tr 2 i) * 3) - (tr 5 (od o 1))) + 5)))) H := hP
                    replace hD : va_D A (([(ob 3, .inl (g 4, tn 3, .inr (.inr (.inr (.inr (bld (ad 3) (tn 3))))))), (sm, .inr (9, [.int c2.1.1, .int c2.1.2.1, .int c2.1.2.2.1, .int c2.2.1, .ref (ob 0), .ref (ob 1), .ref (ob 2), .ref (ob 3), .ref (ob 4)])), (ob 0, .inl (g 4, tn 0, .inr (.inr (.inr (.inr (bld (ad 0) (tn 0))))))), (ob 1, .inl (g 4, tn 1, .inr (.inr (.inr (.inr (bld (ad 1) (tn 1))))))), (ob 2, .inl (g 4, tn 2, .inr (.inr (.inr (.inr (bld (ad 2) (tn 2))))))), (ob 4, .inl (g 4, tn 4, .inr (.inr (.inr (.inr (bld (ad 4) (tn 4)))))))] : va_W) ++ simW (g 0) ad tn (simM tr od (uQu (uBe (uWk c2 o 0) (od o 1) (nI (od o 2))) (od o 1) ((((tr 2 i) * 3) - (tr 5 (od o 1))) + 5)))) := hD
                    refine lv_aload hx hb dX11_pass_173 (lv_at hl 1 rfl) ?_
                    refine lv_iconst (v := 2) hx hb dX11_pass_175 (by decide) ?_
                    refine k_ldS (j := 2) (i := (od o 1)) (q := 2) (v := (uQu (uBe (uWk c2 o 0) (od o 1) (nI (od o 2))) (od o 1) ((((tr 2 i) * 3) - (tr 5 (od o 1))) + 5)).1.2.2.2.2.1 (od o 1)) hx hb hK hP (by decide) (by omega) (by decide) rfl dX11_pass_176 ?_
                    refine k_topi (show ((uQu (uBe (uWk c2 o 0) (od o 1) (nI (od o 2))) (od o 1) ((((tr 2 i) * 3) - (tr 5 (od o 1))) + 5)).1.2.2.2.2.1 (od o 1)) = ((((tr 2 i) * 3) - (tr 5 (od o 1))) + 5) from pk_us) ?_
                    refine lv_iconst (v := 1) hx hb dX11_pass_177 (by decide) ?_
                    refine lv_icmp_ge (tgt := 186) hx hb dX11_pass_178 (by decide) (fun c_178 => ?_) (fun c_178 => ?_)
                    · skip
                      refine lv_aload hx hb dX11_pass_186 (lv_at hl 1 rfl) ?_
                      refine lv_iconst (v := 3) hx hb dX11_pass_188 (by decide) ?_
                      refine lv_iconst (v := 0) hx hb dX11_pass_189 (by decide) ?_
                      refine k_stS (j := 2) (i := (od o 1)) (q := 3) hx hb hK hP hD hS (by decide) (by omega) (by decide) dX11_pass_190 (fun H locs hP7 hD7 hS7 => ?_)
                      clear hP hD hS
                      have hP := hP7
                      have hD := hD7
                      have hS := hS7
                      clear hP7 hD7 hS7
                      rw [sm_Wo] at hP hD
                      replace hP : va_P D CLS (([(ob 3, .inl (g 4, tn 3, .inr (.inr (.inr (.inr (bld (ad 3) (tn 3))))))), (sm, .inr (9, [.int c2.1.1, .int c2.1.2.1, .int c2.1.2.2.1, .int c2.2.1, .ref (ob 0), .ref (ob 1), .ref (ob 2), .ref (ob 3), .ref (ob 4)])), (ob 0, .inl (g 4, tn 0, .inr (.inr (.inr (.inr (bld (ad 0) (tn 0))))))), (ob 1, .inl (g 4, tn 1, .inr (.inr (.inr (.inr (bld (ad 1) (tn 1))))))), (ob 2, .inl (g 4, tn 2, .inr (.inr (.inr (.inr (bld (ad 2) (tn 2))))))), (ob 4, .inl (g 4, tn 4, .inr (.inr (.inr (.inr (bld (ad 4) (tn 4)))))))] : va_W) ++ simW (g 0) ad tn (simM tr od (uWo (uQu (uBe (uWk c2 o 0) (od o 1) (nI (od o 2))) (od o 1) ((((tr 2 i) * 3) - (tr 5 (od o 1))) + 5)) (od o 1) 0))) H := hP
                      replace hD : va_D A (([(ob 3, .inl (g 4, tn 3, .inr (.inr (.inr (.inr (bld (ad 3) (tn 3))))))), (sm, .inr (9, [.int c2.1.1, .int c2.1.2.1, .int c2.1.2.2.1, .int c2.2.1, .ref (ob 0), .ref (ob 1), .ref (ob 2), .ref (ob 3), .ref (ob 4)])), (ob 0, .inl (g 4, tn 0, .inr (.inr (.inr (.inr (bld (ad 0) (tn 0))))))), (ob 1, .inl (g 4, tn 1, .inr (.inr (.inr (.inr (bld (ad 1) (tn 1))))))), (ob 2, .inl (g 4, tn 2, .inr (.inr (.inr (.inr (bld (ad 2) (tn 2))))))), (ob 4, .inl (g 4, tn 4, .inr (.inr (.inr (.inr (bld (ad 4) (tn 4)))))))] : va_W) ++ simW (g 0) ad tn (simM tr od (uWo (uQu (uBe (uWk c2 o 0) (od o 1) (nI (od o 2))) (od o 1) ((((tr 2 i) * 3) - (tr 5 (od o 1))) + 5)) (od o 1) 0))) := hD
                      refine lv_aload_n hx hb dX11_pass_191 rfl (lv_at hl 4 rfl) ?_
                      refine va_get (D := D) (ci := 9) (v := .ref (ob 1)) (C := RX11) (T := TX11) (N := 9) hx hb hts in_X11 hown hK hP 1 rfl rfl 5 (by decide) (hts _ w_1217) (fun _ h9 => h9) rfl dX11_pass_192 ?_
                      refine lv_iload_n hx hb dX11_pass_195 rfl (lv_at hl 6 rfl) ?_
                      refine k_aldB (i := i) hx hb hK hP 3 rfl (by omega) (Nat.le_refl _) (by omega) dX11_pass_196 ?_
                      refine lv_iconst (v := 3) hx hb dX11_pass_197 (by decide) ?_
                      refine lv_dup2_11 hx hb dX11_pass_198 rfl rfl ?_
                      refine k_ldS (j := 1) (i := i) (q := 3) (v := (uWo (uQu (uBe (uWk c2 o 0) (od o 1) (nI (od o 2))) (od o 1) ((((tr 2 i) * 3) - (tr 5 (od o 1))) + 5)) (od o 1) 0).2.2.2 i) hx hb hK hP (by decide) (by omega) (by decide) rfl dX11_pass_199 ?_
                      refine k_topi (show ((uWo (uQu (uBe (uWk c2 o 0) (od o 1) (nI (od o 2))) (od o 1) ((((tr 2 i) * 3) - (tr 5 (od o 1))) + 5)) (od o 1) 0).2.2.2 i) = (c2.2.2.2 i) from rfl) ?_
                      refine lv_iconst (v := 1) hx hb dX11_pass_200 (by decide) ?_
                      refine lv_iadd hx hb dX11_pass_201 ?_
                      refine k_stS (j := 1) (i := i) (q := 3) hx hb hK hP hD hS (by decide) (by omega) (by decide) dX11_pass_202 (fun H locs hP7 hD7 hS7 => ?_)
                      clear hP hD hS
                      have hP := hP7
                      have hD := hD7
                      have hS := hS7
                      clear hP7 hD7 hS7
                      rw [sm_Cb] at hP hD
                      replace hP : va_P D CLS (([(ob 3, .inl (g 4, tn 3, .inr (.inr (.inr (.inr (bld (ad 3) (tn 3))))))), (sm, .inr (9, [.int c2.1.1, .int c2.1.2.1, .int c2.1.2.2.1, .int c2.2.1, .ref (ob 0), .ref (ob 1), .ref (ob 2), .ref (ob 3), .ref (ob 4)])), (ob 0, .inl (g 4, tn 0, .inr (.inr (.inr (.inr (bld (ad 0) (tn 0))))))), (ob 1, .inl (g 4, tn 1, .inr (.inr (.inr (.inr (bld (ad 1) (tn 1))))))), (ob 2, .inl (g 4, tn 2, .inr (.inr (.inr (.inr (bld (ad 2) (tn 2))))))), (ob 4, .inl (g 4, tn 4, .inr (.inr (.inr (.inr (bld (ad 4) (tn 4)))))))] : va_W) ++ simW (g 0) ad tn (simM tr od (uCb (uWo (uQu (uBe (uWk c2 o 0) (od o 1) (nI (od o 2))) (od o 1) ((((tr 2 i) * 3) - (tr 5 (od o 1))) + 5)) (od o 1) 0) i ((c2.2.2.2 i) + 1)))) H := hP
                      replace hD : va_D A (([(ob 3, .inl (g 4, tn 3, .inr (.inr (.inr (.inr (bld (ad 3) (tn 3))))))), (sm, .inr (9, [.int c2.1.1, .int c2.1.2.1, .int c2.1.2.2.1, .int c2.2.1, .ref (ob 0), .ref (ob 1), .ref (ob 2), .ref (ob 3), .ref (ob 4)])), (ob 0, .inl (g 4, tn 0, .inr (.inr (.inr (.inr (bld (ad 0) (tn 0))))))), (ob 1, .inl (g 4, tn 1, .inr (.inr (.inr (.inr (bld (ad 1) (tn 1))))))), (ob 2, .inl (g 4, tn 2, .inr (.inr (.inr (.inr (bld (ad 2) (tn 2))))))), (ob 4, .inl (g 4, tn 4, .inr (.inr (.inr (.inr (bld (ad 4) (tn 4)))))))] : va_W) ++ simW (g 0) ad tn (simM tr od (uCb (uWo (uQu (uBe (uWk c2 o 0) (od o 1) (nI (od o 2))) (od o 1) ((((tr 2 i) * 3) - (tr 5 (od o 1))) + 5)) (od o 1) 0) i ((c2.2.2.2 i) + 1)))) := hD
                      refine lv_aload_n hx hb dX11_pass_203 rfl (lv_at hl 4 rfl) ?_
                      refine lv_dup hx hb dX11_pass_204 rfl ?_
                      refine va_get (D := D) (ci := 9) (v := .int c2.2.1) (C := RX11) (T := TX11) (N := 9) hx hb hts in_X11 hown hK hP 1 rfl rfl 3 (by decide) (hts _ w_1214) (fun _ h9 => h9) rfl dX11_pass_205 ?_
                      refine lv_iconst (v := 1) hx hb dX11_pass_208 (by decide) ?_
                      refine lv_iadd hx hb dX11_pass_209 ?_
                      refine va_put (D := D) (ci := 9) (v := .int (c2.2.1 + 1)) (ty := .int) (C := RX11) (T := TX11) (N := 9) hx hb hts in_X11 tyX11 tyX11_ok nmX11 hown hK hP hD hS 1 rfl rfl 3 (by decide) (hts _ w_1214) (fun _ h9 => h9) rfl (by decide +kernel) rfl rfl (Nat.le_of_ble_eq_true rfl) dX11_pass_210 (fun H locs hP7 hD7 hS7 => ?_)
                      clear hP hD hS
                      have hP := hP7
                      have hD := hD7
                      have hS := hS7
                      clear hP7 hD7 hS7
                      replace hP : va_P D CLS (([(ob 3, .inl (g 4, tn 3, .inr (.inr (.inr (.inr (bld (ad 3) (tn 3))))))), (sm, .inr (9, [.int c2.1.1, .int c2.1.2.1, .int c2.1.2.2.1, .int (c2.2.1 + 1), .ref (ob 0), .ref (ob 1), .ref (ob 2), .ref (ob 3), .ref (ob 4)])), (ob 0, .inl (g 4, tn 0, .inr (.inr (.inr (.inr (bld (ad 0) (tn 0))))))), (ob 1, .inl (g 4, tn 1, .inr (.inr (.inr (.inr (bld (ad 1) (tn 1))))))), (ob 2, .inl (g 4, tn 2, .inr (.inr (.inr (.inr (bld (ad 2) (tn 2))))))), (ob 4, .inl (g 4, tn 4, .inr (.inr (.inr (.inr (bld (ad 4) (tn 4)))))))] : va_W) ++ simW (g 0) ad tn (simM tr od (uCb (uWo (uQu (uBe (uWk c2 o 0) (od o 1) (nI (od o 2))) (od o 1) ((((tr 2 i) * 3) - (tr 5 (od o 1))) + 5)) (od o 1) 0) i ((c2.2.2.2 i) + 1)))) H := hP
                      replace hD : va_D A (([(ob 3, .inl (g 4, tn 3, .inr (.inr (.inr (.inr (bld (ad 3) (tn 3))))))), (sm, .inr (9, [.int c2.1.1, .int c2.1.2.1, .int c2.1.2.2.1, .int (c2.2.1 + 1), .ref (ob 0), .ref (ob 1), .ref (ob 2), .ref (ob 3), .ref (ob 4)])), (ob 0, .inl (g 4, tn 0, .inr (.inr (.inr (.inr (bld (ad 0) (tn 0))))))), (ob 1, .inl (g 4, tn 1, .inr (.inr (.inr (.inr (bld (ad 1) (tn 1))))))), (ob 2, .inl (g 4, tn 2, .inr (.inr (.inr (.inr (bld (ad 2) (tn 2))))))), (ob 4, .inl (g 4, tn 4, .inr (.inr (.inr (.inr (bld (ad 4) (tn 4)))))))] : va_W) ++ simW (g 0) ad tn (simM tr od (uCb (uWo (uQu (uBe (uWk c2 o 0) (od o 1) (nI (od o 2))) (od o 1) ((((tr 2 i) * 3) - (tr 5 (od o 1))) + 5)) (od o 1) 0) i ((c2.2.2.2 i) + 1)))) := hD
                      rw [← sm_All (c := uCb (uWo (uQu (uBe (uWk c2 o 0) (od o 1) (nI (od o 2))) (od o 1) ((((tr 2 i) * 3) - (tr 5 (od o 1))) + 5)) (od o 1) 0) i ((c2.2.2.2 i) + 1)) (v := (c2.2.1 + 1))] at hP hD
                      replace hP : va_P D CLS (([(ob 3, .inl (g 4, tn 3, .inr (.inr (.inr (.inr (bld (ad 3) (tn 3))))))), (sm, .inr (9, [.int c2.1.1, .int c2.1.2.1, .int c2.1.2.2.1, .int (c2.2.1 + 1), .ref (ob 0), .ref (ob 1), .ref (ob 2), .ref (ob 3), .ref (ob 4)])), (ob 0, .inl (g 4, tn 0, .inr (.inr (.inr (.inr (bld (ad 0) (tn 0))))))), (ob 1, .inl (g 4, tn 1, .inr (.inr (.inr (.inr (bld (ad 1) (tn 1))))))), (ob 2, .inl (g 4, tn 2, .inr (.inr (.inr (.inr (bld (ad 2) (tn 2))))))), (ob 4, .inl (g 4, tn 4, .inr (.inr (.inr (.inr (bld (ad 4) (tn 4)))))))] : va_W) ++ simW (g 0) ad tn (simM tr od (uAll (uCb (uWo (uQu (uBe (uWk c2 o 0) (od o 1) (nI (od o 2))) (od o 1) ((((tr 2 i) * 3) - (tr 5 (od o 1))) + 5)) (od o 1) 0) i ((c2.2.2.2 i) + 1)) (c2.2.1 + 1)))) H := hP
                      replace hD : va_D A (([(ob 3, .inl (g 4, tn 3, .inr (.inr (.inr (.inr (bld (ad 3) (tn 3))))))), (sm, .inr (9, [.int c2.1.1, .int c2.1.2.1, .int c2.1.2.2.1, .int (c2.2.1 + 1), .ref (ob 0), .ref (ob 1), .ref (ob 2), .ref (ob 3), .ref (ob 4)])), (ob 0, .inl (g 4, tn 0, .inr (.inr (.inr (.inr (bld (ad 0) (tn 0))))))), (ob 1, .inl (g 4, tn 1, .inr (.inr (.inr (.inr (bld (ad 1) (tn 1))))))), (ob 2, .inl (g 4, tn 2, .inr (.inr (.inr (.inr (bld (ad 2) (tn 2))))))), (ob 4, .inl (g 4, tn 4, .inr (.inr (.inr (.inr (bld (ad 4) (tn 4)))))))] : va_W) ++ simW (g 0) ad tn (simM tr od (uAll (uCb (uWo (uQu (uBe (uWk c2 o 0) (od o 1) (nI (od o 2))) (od o 1) ((((tr 2 i) * 3) - (tr 5 (od o 1))) + 5)) (od o 1) 0) i ((c2.2.2.2 i) + 1)) (c2.2.1 + 1)))) := hD
                      refine lv_iinc (v := nI (i + 1)) (lv' := [(2, .int (nI (i + 1))), (6, .int 1), (5, .ref (ad 2 (od o 1))), (4, .ref (ad 4 o)), (3, .int (nI o)), (0, .ref sm), (1, .int (-1))]) hx hb dX11_pass_213 hl (k := 6) rfl (nI_1 i) (by decide) rfl (fun ls hl => ?_)
                      refine lv_goto (tgt := 2) hx hb dX11_pass_216 (by decide) ?_
                      exact ih_2  (i + 1) (uAll (uCb (uWo (uQu (uBe (uWk c2 o 0) (od o 1) (nI (od o 2))) (od o 1) ((((tr 2 i) * 3) - (tr 5 (od o 1))) + 5)) (od o 1) 0) i ((c2.2.2.2 i) + 1)) (c2.2.1 + 1)) (by omega) (by omega) (by first | exact pc_no hO hC2 (by omega) hc (Int32.not_le.mp c_27) | exact pc_yes hO (by omega) ho1 hc ho9 (pw_a hoo ho2 (by omega) (by omega) (by omega) (by omega) c_64 (Int32.not_le.mp c_122)) | exact pc_yes hO (by omega) ho1 hc ho9 (pw_b hoo ho2 (by omega) (by omega) (by omega) (by omega) c_64 (Int32.not_le.mp c_122)) | exact pc_yes hO (by omega) ho1 hc ho9 (pw_d hoo ho2 (by omega) (by omega) (by omega) (by omega) c_64 (Int32.not_lt.mpr c_122) (Or.inr ⟨Int32.not_le.mp c_178, rfl⟩)) | exact pc_yes hO (by omega) ho1 hc ho9 (pw_d hoo ho2 (by omega) (by omega) (by omega) (by omega) c_64 (Int32.not_lt.mpr c_122) (Or.inl ⟨Int32.not_lt.mpr c_178, rfl⟩)) | exact pc_yes hO (by omega) ho1 hc ho9 (pw_c hoo ho2 (by omega) (by omega) (by omega) (by omega) c_64 (Int32.not_lt.mpr c_122) (Or.inr ⟨Int32.not_le.mp c_178, rfl⟩)) | exact pc_yes hO (by omega) ho1 hc ho9 (pw_c hoo ho2 (by omega) (by omega) (by omega) (by omega) c_64 (Int32.not_lt.mpr c_122) (Or.inl ⟨Int32.not_lt.mpr c_178, rfl⟩))) _ _ (va_P.part hP [1, 2, 3, 4, 0, 5] rfl) (hD.part [1, 2, 3, 4, 0, 5] (by decide +kernel) rfl) hS ls (lv_sub hl [5, 6, 0] rfl)
                    · skip
                      refine lv_aload hx hb dX11_pass_181 (lv_at hl 1 rfl) ?_
                      refine lv_iconst (v := 2) hx hb dX11_pass_183 (by decide) ?_
                      refine lv_iconst (v := 1) hx hb dX11_pass_184 (by decide) ?_
                      refine k_stS (j := 2) (i := (od o 1)) (q := 2) hx hb hK hP hD hS (by decide) (by omega) (by decide) dX11_pass_185 (fun H locs hP7 hD7 hS7 => ?_)
                      clear hP hD hS
                      have hP := hP7
                      have hD := hD7
                      have hS := hS7
                      clear hP7 hD7 hS7
                      rw [sm_Qu2] at hP hD
                      replace hP : va_P D CLS (([(ob 3, .inl (g 4, tn 3, .inr (.inr (.inr (.inr (bld (ad 3) (tn 3))))))), (sm, .inr (9, [.int c2.1.1, .int c2.1.2.1, .int c2.1.2.2.1, .int c2.2.1, .ref (ob 0), .ref (ob 1), .ref (ob 2), .ref (ob 3), .ref (ob 4)])), (ob 0, .inl (g 4, tn 0, .inr (.inr (.inr (.inr (bld (ad 0) (tn 0))))))), (ob 1, .inl (g 4, tn 1, .inr (.inr (.inr (.inr (bld (ad 1) (tn 1))))))), (ob 2, .inl (g 4, tn 2, .inr (.inr (.inr (.inr (bld (ad 2) (tn 2))))))), (ob 4, .inl (g 4, tn 4, .inr (.inr (.inr (.inr (bld (ad 4) (tn 4)))))))] : va_W) ++ simW (g 0) ad tn (simM tr od (uQu (uBe (uWk c2 o 0) (od o 1) (nI (od o 2))) (od o 1) 1))) H := hP
                      replace hD : va_D A (([(ob 3, .inl (g 4, tn 3, .inr (.inr (.inr (.inr (bld (ad 3) (tn 3))))))), (sm, .inr (9, [.int c2.1.1, .int c2.1.2.1, .int c2.1.2.2.1, .int c2.2.1, .ref (ob 0), .ref (ob 1), .ref (ob 2), .ref (ob 3), .ref (ob 4)])), (ob 0, .inl (g 4, tn 0, .inr (.inr (.inr (.inr (bld (ad 0) (tn 0))))))), (ob 1, .inl (g 4, tn 1, .inr (.inr (.inr (.inr (bld (ad 1) (tn 1))))))), (ob 2, .inl (g 4, tn 2, .inr (.inr (.inr (.inr (bld (ad 2) (tn 2))))))), (ob 4, .inl (g 4, tn 4, .inr (.inr (.inr (.inr (bld (ad 4) (tn 4)))))))] : va_W) ++ simW (g 0) ad tn (simM tr od (uQu (uBe (uWk c2 o 0) (od o 1) (nI (od o 2))) (od o 1) 1))) := hD
                      refine lv_aload hx hb dX11_pass_186 (lv_at hl 1 rfl) ?_
                      refine lv_iconst (v := 3) hx hb dX11_pass_188 (by decide) ?_
                      refine lv_iconst (v := 0) hx hb dX11_pass_189 (by decide) ?_
                      refine k_stS (j := 2) (i := (od o 1)) (q := 3) hx hb hK hP hD hS (by decide) (by omega) (by decide) dX11_pass_190 (fun H locs hP7 hD7 hS7 => ?_)
                      clear hP hD hS
                      have hP := hP7
                      have hD := hD7
                      have hS := hS7
                      clear hP7 hD7 hS7
                      rw [sm_Wo] at hP hD
                      replace hP : va_P D CLS (([(ob 3, .inl (g 4, tn 3, .inr (.inr (.inr (.inr (bld (ad 3) (tn 3))))))), (sm, .inr (9, [.int c2.1.1, .int c2.1.2.1, .int c2.1.2.2.1, .int c2.2.1, .ref (ob 0), .ref (ob 1), .ref (ob 2), .ref (ob 3), .ref (ob 4)])), (ob 0, .inl (g 4, tn 0, .inr (.inr (.inr (.inr (bld (ad 0) (tn 0))))))), (ob 1, .inl (g 4, tn 1, .inr (.inr (.inr (.inr (bld (ad 1) (tn 1))))))), (ob 2, .inl (g 4, tn 2, .inr (.inr (.inr (.inr (bld (ad 2) (tn 2))))))), (ob 4, .inl (g 4, tn 4, .inr (.inr (.inr (.inr (bld (ad 4) (tn 4)))))))] : va_W) ++ simW (g 0) ad tn (simM tr od (uWo (uQu (uBe (uWk c2 o 0) (od o 1) (nI (od o 2))) (od o 1) 1) (od o 1) 0))) H := hP
                      replace hD : va_D A (([(ob 3, .inl (g 4, tn 3, .inr (.inr (.inr (.inr (bld (ad 3) (tn 3))))))), (sm, .inr (9, [.int c2.1.1, .int c2.1.2.1, .int c2.1.2.2.1, .int c2.2.1, .ref (ob 0), .ref (ob 1), .ref (ob 2), .ref (ob 3), .ref (ob 4)])), (ob 0, .inl (g 4, tn 0, .inr (.inr (.inr (.inr (bld (ad 0) (tn 0))))))), (ob 1, .inl (g 4, tn 1, .inr (.inr (.inr (.inr (bld (ad 1) (tn 1))))))), (ob 2, .inl (g 4, tn 2, .inr (.inr (.inr (.inr (bld (ad 2) (tn 2))))))), (ob 4, .inl (g 4, tn 4, .inr (.inr (.inr (.inr (bld (ad 4) (tn 4)))))))] : va_W) ++ simW (g 0) ad tn (simM tr od (uWo (uQu (uBe (uWk c2 o 0) (od o 1) (nI (od o 2))) (od o 1) 1) (od o 1) 0))) := hD
                      refine lv_aload_n hx hb dX11_pass_191 rfl (lv_at hl 4 rfl) ?_
                      refine va_get (D := D) (ci := 9) (v := .ref (ob 1)) (C := RX11) (T := TX11) (N := 9) hx hb hts in_X11 hown hK hP 1 rfl rfl 5 (by decide) (hts _ w_1217) (fun _ h9 => h9) rfl dX11_pass_192 ?_
                      refine lv_iload_n hx hb dX11_pass_195 rfl (lv_at hl 6 rfl) ?_
                      refine k_aldB (i := i) hx hb hK hP 3 rfl (by omega) (Nat.le_refl _) (by omega) dX11_pass_196 ?_
                      refine lv_iconst (v := 3) hx hb dX11_pass_197 (by decide) ?_
                      refine lv_dup2_11 hx hb dX11_pass_198 rfl rfl ?_
                      refine k_ldS (j := 1) (i := i) (q := 3) (v := (uWo (uQu (uBe (uWk c2 o 0) (od o 1) (nI (od o 2))) (od o 1) 1) (od o 1) 0).2.2.2 i) hx hb hK hP (by decide) (by omega) (by decide) rfl dX11_pass_199 ?_
                      refine k_topi (show ((uWo (uQu (uBe (uWk c2 o 0) (od o 1) (nI (od o 2))) (od o 1) 1) (od o 1) 0).2.2.2 i) = (c2.2.2.2 i) from rfl) ?_
                      refine lv_iconst (v := 1) hx hb dX11_pass_200 (by decide) ?_
                      refine lv_iadd hx hb dX11_pass_201 ?_
                      refine k_stS (j := 1) (i := i) (q := 3) hx hb hK hP hD hS (by decide) (by omega) (by decide) dX11_pass_202 (fun H locs hP7 hD7 hS7 => ?_)
                      clear hP hD hS
                      have hP := hP7
                      have hD := hD7
                      have hS := hS7
                      clear hP7 hD7 hS7
                      rw [sm_Cb] at hP hD
                      replace hP : va_P D CLS (([(ob 3, .inl (g 4, tn 3, .inr (.inr (.inr (.inr (bld (ad 3) (tn 3))))))), (sm, .inr (9, [.int c2.1.1, .int c2.1.2.1, .int c2.1.2.2.1, .int c2.2.1, .ref (ob 0), .ref (ob 1), .ref (ob 2), .ref (ob 3), .ref (ob 4)])), (ob 0, .inl (g 4, tn 0, .inr (.inr (.inr (.inr (bld (ad 0) (tn 0))))))), (ob 1, .inl (g 4, tn 1, .inr (.inr (.inr (.inr (bld (ad 1) (tn 1))))))), (ob 2, .inl (g 4, tn 2, .inr (.inr (.inr (.inr (bld (ad 2) (tn 2))))))), (ob 4, .inl (g 4, tn 4, .inr (.inr (.inr (.inr (bld (ad 4) (tn 4)))))))] : va_W) ++ simW (g 0) ad tn (simM tr od (uCb (uWo (uQu (uBe (uWk c2 o 0) (od o 1) (nI (od o 2))) (od o 1) 1) (od o 1) 0) i ((c2.2.2.2 i) + 1)))) H := hP
                      replace hD : va_D A (([(ob 3, .inl (g 4, tn 3, .inr (.inr (.inr (.inr (bld (ad 3) (tn 3))))))), (sm, .inr (9, [.int c2.1.1, .int c2.1.2.1, .int c2.1.2.2.1, .int c2.2.1, .ref (ob 0), .ref (ob 1), .ref (ob 2), .ref (ob 3), .ref (ob 4)])), (ob 0, .inl (g 4, tn 0, .inr (.inr (.inr (.inr (bld (ad 0) (tn 0))))))), (ob 1, .inl (g 4, tn 1, .inr (.inr (.inr (.inr (bld (ad 1) (tn 1))))))), (ob 2, .inl (g 4, tn 2, .inr (.inr (.inr (.inr (bld (ad 2) (tn 2))))))), (ob 4, .inl (g 4, tn 4, .inr (.inr (.inr (.inr (bld (ad 4) (tn 4)))))))] : va_W) ++ simW (g 0) ad tn (simM tr od (uCb (uWo (uQu (uBe (uWk c2 o 0) (od o 1) (nI (od o 2))) (od o 1) 1) (od o 1) 0) i ((c2.2.2.2 i) + 1)))) := hD
                      refine lv_aload_n hx hb dX11_pass_203 rfl (lv_at hl 4 rfl) ?_
                      refine lv_dup hx hb dX11_pass_204 rfl ?_
                      refine va_get (D := D) (ci := 9) (v := .int c2.2.1) (C := RX11) (T := TX11) (N := 9) hx hb hts in_X11 hown hK hP 1 rfl rfl 3 (by decide) (hts _ w_1214) (fun _ h9 => h9) rfl dX11_pass_205 ?_
                      refine lv_iconst (v := 1) hx hb dX11_pass_208 (by decide) ?_
                      refine lv_iadd hx hb dX11_pass_209 ?_
                      refine va_put (D := D) (ci := 9) (v := .int (c2.2.1 + 1)) (ty := .int) (C := RX11) (T := TX11) (N := 9) hx hb hts in_X11 tyX11 tyX11_ok nmX11 hown hK hP hD hS 1 rfl rfl 3 (by decide) (hts _ w_1214) (fun _ h9 => h9) rfl (by decide +kernel) rfl rfl (Nat.le_of_ble_eq_true rfl) dX11_pass_210 (fun H locs hP7 hD7 hS7 => ?_)
                      clear hP hD hS
                      have hP := hP7
                      have hD := hD7
                      have hS := hS7
                      clear hP7 hD7 hS7
                      replace hP : va_P D CLS (([(ob 3, .inl (g 4, tn 3, .inr (.inr (.inr (.inr (bld (ad 3) (tn 3))))))), (sm, .inr (9, [.int c2.1.1, .int c2.1.2.1, .int c2.1.2.2.1, .int (c2.2.1 + 1), .ref (ob 0), .ref (ob 1), .ref (ob 2), .ref (ob 3), .ref (ob 4)])), (ob 0, .inl (g 4, tn 0, .inr (.inr (.inr (.inr (bld (ad 0) (tn 0))))))), (ob 1, .inl (g 4, tn 1, .inr (.inr (.inr (.inr (bld (ad 1) (tn 1))))))), (ob 2, .inl (g 4, tn 2, .inr (.inr (.inr (.inr (bld (ad 2) (tn 2))))))), (ob 4, .inl (g 4, tn 4, .inr (.inr (.inr (.inr (bld (ad 4) (tn 4)))))))] : va_W) ++ simW (g 0) ad tn (simM tr od (uCb (uWo (uQu (uBe (uWk c2 o 0) (od o 1) (nI (od o 2))) (od o 1) 1) (od o 1) 0) i ((c2.2.2.2 i) + 1)))) H := hP
                      replace hD : va_D A (([(ob 3, .inl (g 4, tn 3, .inr (.inr (.inr (.inr (bld (ad 3) (tn 3))))))), (sm, .inr (9, [.int c2.1.1, .int c2.1.2.1, .int c2.1.2.2.1, .int (c2.2.1 + 1), .ref (ob 0), .ref (ob 1), .ref (ob 2), .ref (ob 3), .ref (ob 4)])), (ob 0, .inl (g 4, tn 0, .inr (.inr (.inr (.inr (bld (ad 0) (tn 0))))))), (ob 1, .inl (g 4, tn 1, .inr (.inr (.inr (.inr (bld (ad 1) (tn 1))))))), (ob 2, .inl (g 4, tn 2, .inr (.inr (.inr (.inr (bld (ad 2) (tn 2))))))), (ob 4, .inl (g 4, tn 4, .inr (.inr (.inr (.inr (bld (ad 4) (tn 4)))))))] : va_W) ++ simW (g 0) ad tn (simM tr od (uCb (uWo (uQu (uBe (uWk c2 o 0) (od o 1) (nI (od o 2))) (od o 1) 1) (od o 1) 0) i ((c2.2.2.2 i) + 1)))) := hD
                      rw [← sm_All (c := uCb (uWo (uQu (uBe (uWk c2 o 0) (od o 1) (nI (od o 2))) (od o 1) 1) (od o 1) 0) i ((c2.2.2.2 i) + 1)) (v := (c2.2.1 + 1))] at hP hD
                      replace hP : va_P D CLS (([(ob 3, .inl (g 4, tn 3, .inr (.inr (.inr (.inr (bld (ad 3) (tn 3))))))), (sm, .inr (9, [.int c2.1.1, .int c2.1.2.1, .int c2.1.2.2.1, .int (c2.2.1 + 1), .ref (ob 0), .ref (ob 1), .ref (ob 2), .ref (ob 3), .ref (ob 4)])), (ob 0, .inl (g 4, tn 0, .inr (.inr (.inr (.inr (bld (ad 0) (tn 0))))))), (ob 1, .inl (g 4, tn 1, .inr (.inr (.inr (.inr (bld (ad 1) (tn 1))))))), (ob 2, .inl (g 4, tn 2, .inr (.inr (.inr (.inr (bld (ad 2) (tn 2))))))), (ob 4, .inl (g 4, tn 4, .inr (.inr (.inr (.inr (bld (ad 4) (tn 4)))))))] : va_W) ++ simW (g 0) ad tn (simM tr od (uAll (uCb (uWo (uQu (uBe (uWk c2 o 0) (od o 1) (nI (od o 2))) (od o 1) 1) (od o 1) 0) i ((c2.2.2.2 i) + 1)) (c2.2.1 + 1)))) H := hP
                      replace hD : va_D A (([(ob 3, .inl (g 4, tn 3, .inr (.inr (.inr (.inr (bld (ad 3) (tn 3))))))), (sm, .inr (9, [.int c2.1.1, .int c2.1.2.1, .int c2.1.2.2.1, .int (c2.2.1 + 1), .ref (ob 0), .ref (ob 1), .ref (ob 2), .ref (ob 3), .ref (ob 4)])), (ob 0, .inl (g 4, tn 0, .inr (.inr (.inr (.inr (bld (ad 0) (tn 0))))))), (ob 1, .inl (g 4, tn 1, .inr (.inr (.inr (.inr (bld (ad 1) (tn 1))))))), (ob 2, .inl (g 4, tn 2, .inr (.inr (.inr (.inr (bld (ad 2) (tn 2))))))), (ob 4, .inl (g 4, tn 4, .inr (.inr (.inr (.inr (bld (ad 4) (tn 4)))))))] : va_W) ++ simW (g 0) ad tn (simM tr od (uAll (uCb (uWo (uQu (uBe (uWk c2 o 0) (od o 1) (nI (od o 2))) (od o 1) 1) (od o 1) 0) i ((c2.2.2.2 i) + 1)) (c2.2.1 + 1)))) := hD
                      refine lv_iinc (v := nI (i + 1)) (lv' := [(2, .int (nI (i + 1))), (6, .int 1), (5, .ref (ad 2 (od o 1))), (4, .ref (ad 4 o)), (3, .int (nI o)), (0, .ref sm), (1, .int (-1))]) hx hb dX11_pass_213 hl (k := 6) rfl (nI_1 i) (by decide) rfl (fun ls hl => ?_)
                      refine lv_goto (tgt := 2) hx hb dX11_pass_216 (by decide) ?_
                      exact ih_2  (i + 1) (uAll (uCb (uWo (uQu (uBe (uWk c2 o 0) (od o 1) (nI (od o 2))) (od o 1) 1) (od o 1) 0) i ((c2.2.2.2 i) + 1)) (c2.2.1 + 1)) (by omega) (by omega) (by first | exact pc_no hO hC2 (by omega) hc (Int32.not_le.mp c_27) | exact pc_yes hO (by omega) ho1 hc ho9 (pw_a hoo ho2 (by omega) (by omega) (by omega) (by omega) c_64 (Int32.not_le.mp c_122)) | exact pc_yes hO (by omega) ho1 hc ho9 (pw_b hoo ho2 (by omega) (by omega) (by omega) (by omega) c_64 (Int32.not_le.mp c_122)) | exact pc_yes hO (by omega) ho1 hc ho9 (pw_d hoo ho2 (by omega) (by omega) (by omega) (by omega) c_64 (Int32.not_lt.mpr c_122) (Or.inr ⟨Int32.not_le.mp c_178, rfl⟩)) | exact pc_yes hO (by omega) ho1 hc ho9 (pw_d hoo ho2 (by omega) (by omega) (by omega) (by omega) c_64 (Int32.not_lt.mpr c_122) (Or.inl ⟨Int32.not_lt.mpr c_178, rfl⟩)) | exact pc_yes hO (by omega) ho1 hc ho9 (pw_c hoo ho2 (by omega) (by omega) (by omega) (by omega) c_64 (Int32.not_lt.mpr c_122) (Or.inr ⟨Int32.not_le.mp c_178, rfl⟩)) | exact pc_yes hO (by omega) ho1 hc ho9 (pw_c hoo ho2 (by omega) (by omega) (by omega) (by omega) c_64 (Int32.not_lt.mpr c_122) (Or.inl ⟨Int32.not_lt.mpr c_178, rfl⟩))) _ _ (va_P.part hP [1, 2, 3, 4, 0, 5] rfl) (hD.part [1, 2, 3, 4, 0, 5] (by decide +kernel) rfl) hS ls (lv_sub hl [5, 6, 0] rfl)
                · skip
                  refine lv_goto (tgt := 213) hx hb dX11_pass_125 (by decide) ?_
                  refine lv_iinc (v := nI (i + 1)) (lv' := [(2, .int (nI (i + 1))), (6, .int 1), (5, .ref (ad 2 (od o 1))), (4, .ref (ad 4 o)), (3, .int (nI o)), (0, .ref sm), (1, .int (-1))]) hx hb dX11_pass_213 hl (k := 6) rfl (nI_1 i) (by decide) rfl (fun ls hl => ?_)
                  refine lv_goto (tgt := 2) hx hb dX11_pass_216 (by decide) ?_
                  exact ih_2  (i + 1) (uWk c2 o ((c2.2.2.1 o) + ((tr 2 i) * 2))) (by omega) (by omega) (by first | exact pc_no hO hC2 (by omega) hc (Int32.not_le.mp c_27) | exact pc_yes hO (by omega) ho1 hc ho9 (pw_a hoo ho2 (by omega) (by omega) (by omega) (by omega) c_64 (Int32.not_le.mp c_122)) | exact pc_yes hO (by omega) ho1 hc ho9 (pw_b hoo ho2 (by omega) (by omega) (by omega) (by omega) c_64 (Int32.not_le.mp c_122)) | exact pc_yes hO (by omega) ho1 hc ho9 (pw_d hoo ho2 (by omega) (by omega) (by omega) (by omega) c_64 (Int32.not_lt.mpr c_122) (Or.inr ⟨Int32.not_le.mp c_178, rfl⟩)) | exact pc_yes hO (by omega) ho1 hc ho9 (pw_d hoo ho2 (by omega) (by omega) (by omega) (by omega) c_64 (Int32.not_lt.mpr c_122) (Or.inl ⟨Int32.not_lt.mpr c_178, rfl⟩)) | exact pc_yes hO (by omega) ho1 hc ho9 (pw_c hoo ho2 (by omega) (by omega) (by omega) (by omega) c_64 (Int32.not_lt.mpr c_122) (Or.inr ⟨Int32.not_le.mp c_178, rfl⟩)) | exact pc_yes hO (by omega) ho1 hc ho9 (pw_c hoo ho2 (by omega) (by omega) (by omega) (by omega) c_64 (Int32.not_lt.mpr c_122) (Or.inl ⟨Int32.not_lt.mpr c_178, rfl⟩))) _ _ (va_P.part hP [1, 2, 3, 4, 0, 5] rfl) (hD.part [1, 2, 3, 4, 0, 5] (by decide +kernel) rfl) hS ls (lv_sub hl [5, 6, 0] rfl)
          · skip
            refine lv_goto (tgt := 213) hx hb dX11_pass_30 (by decide) ?_
            refine lv_iinc (v := nI (i + 1)) (lv' := [(2, .int (nI (i + 1))), (3, .int (oI (fToday tr (tn 4) (fun j v => sHold tn (od j) v) c2.1 i))), (0, .ref sm), (1, .int (-1))]) hx hb dX11_pass_213 hl (k := 3) rfl (nI_1 i) (by decide) rfl (fun ls hl => ?_)
            refine lv_goto (tgt := 2) hx hb dX11_pass_216 (by decide) ?_
            exact ih_2  (i + 1) c2 (by omega) (by omega) (by first | exact pc_no hO hC2 (by omega) hc (Int32.not_le.mp c_27) | exact pc_yes hO (by omega) ho1 hc ho9 (pw_a hoo ho2 (by omega) (by omega) (by omega) (by omega) c_64 (Int32.not_le.mp c_122)) | exact pc_yes hO (by omega) ho1 hc ho9 (pw_b hoo ho2 (by omega) (by omega) (by omega) (by omega) c_64 (Int32.not_le.mp c_122)) | exact pc_yes hO (by omega) ho1 hc ho9 (pw_d hoo ho2 (by omega) (by omega) (by omega) (by omega) c_64 (Int32.not_lt.mpr c_122) (Or.inr ⟨Int32.not_le.mp c_178, rfl⟩)) | exact pc_yes hO (by omega) ho1 hc ho9 (pw_d hoo ho2 (by omega) (by omega) (by omega) (by omega) c_64 (Int32.not_lt.mpr c_122) (Or.inl ⟨Int32.not_lt.mpr c_178, rfl⟩)) | exact pc_yes hO (by omega) ho1 hc ho9 (pw_c hoo ho2 (by omega) (by omega) (by omega) (by omega) c_64 (Int32.not_lt.mpr c_122) (Or.inr ⟨Int32.not_le.mp c_178, rfl⟩)) | exact pc_yes hO (by omega) ho1 hc ho9 (pw_c hoo ho2 (by omega) (by omega) (by omega) (by omega) c_64 (Int32.not_lt.mpr c_122) (Or.inl ⟨Int32.not_lt.mpr c_178, rfl⟩))) _ _ (va_P.part hP [1, 2, 3, 4, 0, 5] rfl) (hD.part [1, 2, 3, 4, 0, 5] (by decide +kernel) rfl) hS ls (lv_sub hl [2, 3, 0] rfl)
        · skip
          exact absurd c_13 (nI_nm1 (by omega))
  exact loop_2 (tn 1 - 0 + 1) 0 c (by omega) (Nat.zero_le _) rfl _ _ (va_P.part hP [0, 1, 2, 3, 4, 5] rfl) (hD.part [0, 1, 2, 3, 4, 5] (by decide +kernel) rfl) hS ls (lv_sub hl [1, 2, 0] rfl)
