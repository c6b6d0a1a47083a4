theorem d_M_waysAt_0 : decode (ab_bc mt_M_waysAt) 0 = .ok (.iconst 0, 1) := by decide +kernel
theorem d_M_waysAt_1 : decode (ab_bc mt_M_waysAt) 1 = .ok (.istore_n 2, 1) := by decide +kernel
theorem d_M_waysAt_2 : decode (ab_bc mt_M_waysAt) 2 = .ok (.iconst 0, 1) := by decide +kernel
theorem d_M_waysAt_3 : decode (ab_bc mt_M_waysAt) 3 = .ok (.istore_n 3, 1) := by decide +kernel
theorem d_M_waysAt_4 : decode (ab_bc mt_M_waysAt) 4 = .ok (.iconst 0, 1) := by decide +kernel
theorem d_M_waysAt_5 : decode (ab_bc mt_M_waysAt) 5 = .ok (.istore 4, 2) := by decide +kernel
theorem d_M_waysAt_7 : decode (ab_bc mt_M_waysAt) 7 = .ok (.iload 4, 2) := by decide +kernel
theorem d_M_waysAt_9 : decode (ab_bc mt_M_waysAt) 9 = .ok (.aload_n 0, 1) := by decide +kernel
theorem d_M_waysAt_10 : decode (ab_bc mt_M_waysAt) 10 = .ok (.invokevirtual 234, 3) := by decide +kernel
theorem d_M_waysAt_13 : decode (ab_bc mt_M_waysAt) 13 = .ok (.if_icmp .ge 69, 3) := by decide +kernel
theorem d_M_waysAt_16 : decode (ab_bc mt_M_waysAt) 16 = .ok (.iload_n 2, 1) := by decide +kernel
theorem d_M_waysAt_17 : decode (ab_bc mt_M_waysAt) 17 = .ok (.aload_n 0, 1) := by decide +kernel
theorem d_M_waysAt_18 : decode (ab_bc mt_M_waysAt) 18 = .ok (.iload 4, 2) := by decide +kernel
theorem d_M_waysAt_20 : decode (ab_bc mt_M_waysAt) 20 = .ok (.invokevirtual 262, 3) := by decide +kernel
theorem d_M_waysAt_23 : decode (ab_bc mt_M_waysAt) 23 = .ok (.ifCond .eq 20, 3) := by decide +kernel
theorem d_M_waysAt_26 : decode (ab_bc mt_M_waysAt) 26 = .ok (.aload_n 0, 1) := by decide +kernel
theorem d_M_waysAt_27 : decode (ab_bc mt_M_waysAt) 27 = .ok (.iload 4, 2) := by decide +kernel
theorem d_M_waysAt_29 : decode (ab_bc mt_M_waysAt) 29 = .ok (.invokevirtual 222, 3) := by decide +kernel
theorem d_M_waysAt_32 : decode (ab_bc mt_M_waysAt) 32 = .ok (.iload_n 1, 1) := by decide +kernel
theorem d_M_waysAt_33 : decode (ab_bc mt_M_waysAt) 33 = .ok (.if_icmp .ge 10, 3) := by decide +kernel
theorem d_M_waysAt_36 : decode (ab_bc mt_M_waysAt) 36 = .ok (.iconst 1, 1) := by decide +kernel
theorem d_M_waysAt_37 : decode (ab_bc mt_M_waysAt) 37 = .ok (.iload 4, 2) := by decide +kernel
theorem d_M_waysAt_39 : decode (ab_bc mt_M_waysAt) 39 = .ok (.ishl, 1) := by decide +kernel
theorem d_M_waysAt_40 : decode (ab_bc mt_M_waysAt) 40 = .ok (.goto 4, 3) := by decide +kernel
theorem d_M_waysAt_43 : decode (ab_bc mt_M_waysAt) 43 = .ok (.iconst 0, 1) := by decide +kernel
theorem d_M_waysAt_44 : decode (ab_bc mt_M_waysAt) 44 = .ok (.ior, 1) := by decide +kernel
theorem d_M_waysAt_45 : decode (ab_bc mt_M_waysAt) 45 = .ok (.istore_n 2, 1) := by decide +kernel
theorem d_M_waysAt_46 : decode (ab_bc mt_M_waysAt) 46 = .ok (.iload_n 3, 1) := by decide +kernel
theorem d_M_waysAt_47 : decode (ab_bc mt_M_waysAt) 47 = .ok (.aload_n 0, 1) := by decide +kernel
theorem d_M_waysAt_48 : decode (ab_bc mt_M_waysAt) 48 = .ok (.iload 4, 2) := by decide +kernel
theorem d_M_waysAt_50 : decode (ab_bc mt_M_waysAt) 50 = .ok (.invokevirtual 262, 3) := by decide +kernel
theorem d_M_waysAt_53 : decode (ab_bc mt_M_waysAt) 53 = .ok (.ifCond .eq 20, 3) := by decide +kernel
theorem d_M_waysAt_56 : decode (ab_bc mt_M_waysAt) 56 = .ok (.aload_n 0, 1) := by decide +kernel
theorem d_M_waysAt_57 : decode (ab_bc mt_M_waysAt) 57 = .ok (.iload 4, 2) := by decide +kernel
theorem d_M_waysAt_59 : decode (ab_bc mt_M_waysAt) 59 = .ok (.invokevirtual 222, 3) := by decide +kernel
theorem d_M_waysAt_62 : decode (ab_bc mt_M_waysAt) 62 = .ok (.iload_n 1, 1) := by decide +kernel
theorem d_M_waysAt_63 : decode (ab_bc mt_M_waysAt) 63 = .ok (.if_icmp .ne 10, 3) := by decide +kernel
theorem d_M_waysAt_66 : decode (ab_bc mt_M_waysAt) 66 = .ok (.iconst 1, 1) := by decide +kernel
theorem d_M_waysAt_67 : decode (ab_bc mt_M_waysAt) 67 = .ok (.iload 4, 2) := by decide +kernel
theorem d_M_waysAt_69 : decode (ab_bc mt_M_waysAt) 69 = .ok (.ishl, 1) := by decide +kernel
theorem d_M_waysAt_70 : decode (ab_bc mt_M_waysAt) 70 = .ok (.goto 4, 3) := by decide +kernel
theorem d_M_waysAt_73 : decode (ab_bc mt_M_waysAt) 73 = .ok (.iconst 0, 1) := by decide +kernel
theorem d_M_waysAt_74 : decode (ab_bc mt_M_waysAt) 74 = .ok (.ior, 1) := by decide +kernel
theorem d_M_waysAt_75 : decode (ab_bc mt_M_waysAt) 75 = .ok (.istore_n 3, 1) := by decide +kernel
theorem d_M_waysAt_76 : decode (ab_bc mt_M_waysAt) 76 = .ok (.iinc 4 1, 3) := by decide +kernel
theorem d_M_waysAt_79 : decode (ab_bc mt_M_waysAt) 79 = .ok (.goto (-72), 3) := by decide +kernel
theorem d_M_waysAt_82 : decode (ab_bc mt_M_waysAt) 82 = .ok (.aload_n 0, 1) := by decide +kernel
theorem d_M_waysAt_83 : decode (ab_bc mt_M_waysAt) 83 = .ok (.iload_n 2, 1) := by decide +kernel
theorem d_M_waysAt_84 : decode (ab_bc mt_M_waysAt) 84 = .ok (.iload_n 3, 1) := by decide +kernel
theorem d_M_waysAt_85 : decode (ab_bc mt_M_waysAt) 85 = .ok (.ior, 1) := by decide +kernel
theorem d_M_waysAt_86 : decode (ab_bc mt_M_waysAt) 86 = .ok (.invokevirtual 248, 3) := by decide +kernel
theorem d_M_waysAt_89 : decode (ab_bc mt_M_waysAt) 89 = .ok (.istore 4, 2) := by decide +kernel
theorem d_M_waysAt_91 : decode (ab_bc mt_M_waysAt) 91 = .ok (.aload_n 0, 1) := by decide +kernel
theorem d_M_waysAt_92 : decode (ab_bc mt_M_waysAt) 92 = .ok (.getfield 68, 3) := by decide +kernel
theorem d_M_waysAt_95 : decode (ab_bc mt_M_waysAt) 95 = .ok (.aload_n 0, 1) := by decide +kernel
theorem d_M_waysAt_96 : decode (ab_bc mt_M_waysAt) 96 = .ok (.getfield 40, 3) := by decide +kernel
theorem d_M_waysAt_99 : decode (ab_bc mt_M_waysAt) 99 = .ok (.invokestatic 208, 3) := by decide +kernel
theorem d_M_waysAt_102 : decode (ab_bc mt_M_waysAt) 102 = .ok (.aload_n 0, 1) := by decide +kernel
theorem d_M_waysAt_103 : decode (ab_bc mt_M_waysAt) 103 = .ok (.iload_n 2, 1) := by decide +kernel
theorem d_M_waysAt_104 : decode (ab_bc mt_M_waysAt) 104 = .ok (.invokevirtual 248, 3) := by decide +kernel
theorem d_M_waysAt_107 : decode (ab_bc mt_M_waysAt) 107 = .ok (.istore 5, 2) := by decide +kernel
theorem d_M_waysAt_109 : decode (ab_bc mt_M_waysAt) 109 = .ok (.iconst 0, 1) := by decide +kernel
theorem d_M_waysAt_110 : decode (ab_bc mt_M_waysAt) 110 = .ok (.istore 6, 2) := by decide +kernel
theorem d_M_waysAt_112 : decode (ab_bc mt_M_waysAt) 112 = .ok (.iconst 0, 1) := by decide +kernel
theorem d_M_waysAt_113 : decode (ab_bc mt_M_waysAt) 113 = .ok (.istore 7, 2) := by decide +kernel
theorem d_M_waysAt_115 : decode (ab_bc mt_M_waysAt) 115 = .ok (.iload 7, 2) := by decide +kernel
theorem d_M_waysAt_117 : decode (ab_bc mt_M_waysAt) 117 = .ok (.aload_n 0, 1) := by decide +kernel
theorem d_M_waysAt_118 : decode (ab_bc mt_M_waysAt) 118 = .ok (.getfield 21, 3) := by decide +kernel
theorem d_M_waysAt_121 : decode (ab_bc mt_M_waysAt) 121 = .ok (.if_icmp .ge 67, 3) := by decide +kernel
theorem d_M_waysAt_124 : decode (ab_bc mt_M_waysAt) 124 = .ok (.aload_n 0, 1) := by decide +kernel
theorem d_M_waysAt_125 : decode (ab_bc mt_M_waysAt) 125 = .ok (.getfield 71, 3) := by decide +kernel
theorem d_M_waysAt_128 : decode (ab_bc mt_M_waysAt) 128 = .ok (.iload 7, 2) := by decide +kernel
theorem d_M_waysAt_130 : decode (ab_bc mt_M_waysAt) 130 = .ok (.aload_n 0, 1) := by decide +kernel
theorem d_M_waysAt_131 : decode (ab_bc mt_M_waysAt) 131 = .ok (.getfield 40, 3) := by decide +kernel
theorem d_M_waysAt_134 : decode (ab_bc mt_M_waysAt) 134 = .ok (.iload 7, 2) := by decide +kernel
theorem d_M_waysAt_136 : decode (ab_bc mt_M_waysAt) 136 = .ok (.iaload, 1) := by decide +kernel
theorem d_M_waysAt_137 : decode (ab_bc mt_M_waysAt) 137 = .ok (.iload 7, 2) := by decide +kernel
theorem d_M_waysAt_139 : decode (ab_bc mt_M_waysAt) 139 = .ok (.if_icmp .ne 20, 3) := by decide +kernel
theorem d_M_waysAt_142 : decode (ab_bc mt_M_waysAt) 142 = .ok (.aload_n 0, 1) := by decide +kernel
theorem d_M_waysAt_143 : decode (ab_bc mt_M_waysAt) 143 = .ok (.getfield 68, 3) := by decide +kernel
theorem d_M_waysAt_146 : decode (ab_bc mt_M_waysAt) 146 = .ok (.iload 7, 2) := by decide +kernel
theorem d_M_waysAt_148 : decode (ab_bc mt_M_waysAt) 148 = .ok (.iaload, 1) := by decide +kernel
theorem d_M_waysAt_149 : decode (ab_bc mt_M_waysAt) 149 = .ok (.iload 7, 2) := by decide +kernel
theorem d_M_waysAt_151 : decode (ab_bc mt_M_waysAt) 151 = .ok (.if_icmp .eq 8, 3) := by decide +kernel
theorem d_M_waysAt_154 : decode (ab_bc mt_M_waysAt) 154 = .ok (.iload 6, 2) := by decide +kernel
theorem d_M_waysAt_156 : decode (ab_bc mt_M_waysAt) 156 = .ok (.goto 4, 3) := by decide +kernel
theorem d_M_waysAt_159 : decode (ab_bc mt_M_waysAt) 159 = .ok (.iconst (-1), 1) := by decide +kernel
theorem d_M_waysAt_160 : decode (ab_bc mt_M_waysAt) 160 = .ok (.iastore, 1) := by decide +kernel
theorem d_M_waysAt_161 : decode (ab_bc mt_M_waysAt) 161 = .ok (.iload 6, 2) := by decide +kernel
theorem d_M_waysAt_163 : decode (ab_bc mt_M_waysAt) 163 = .ok (.aload_n 0, 1) := by decide +kernel
theorem d_M_waysAt_164 : decode (ab_bc mt_M_waysAt) 164 = .ok (.getfield 71, 3) := by decide +kernel
theorem d_M_waysAt_167 : decode (ab_bc mt_M_waysAt) 167 = .ok (.iload 7, 2) := by decide +kernel
theorem d_M_waysAt_169 : decode (ab_bc mt_M_waysAt) 169 = .ok (.iaload, 1) := by decide +kernel
theorem d_M_waysAt_170 : decode (ab_bc mt_M_waysAt) 170 = .ok (.iconst (-1), 1) := by decide +kernel
theorem d_M_waysAt_171 : decode (ab_bc mt_M_waysAt) 171 = .ok (.if_icmp .ne 7, 3) := by decide +kernel
theorem d_M_waysAt_174 : decode (ab_bc mt_M_waysAt) 174 = .ok (.iconst 0, 1) := by decide +kernel
theorem d_M_waysAt_175 : decode (ab_bc mt_M_waysAt) 175 = .ok (.goto 4, 3) := by decide +kernel
theorem d_M_waysAt_178 : decode (ab_bc mt_M_waysAt) 178 = .ok (.iconst 1, 1) := by decide +kernel
theorem d_M_waysAt_179 : decode (ab_bc mt_M_waysAt) 179 = .ok (.iadd, 1) := by decide +kernel
theorem d_M_waysAt_180 : decode (ab_bc mt_M_waysAt) 180 = .ok (.istore 6, 2) := by decide +kernel
theorem d_M_waysAt_182 : decode (ab_bc mt_M_waysAt) 182 = .ok (.iinc 7 1, 3) := by decide +kernel
theorem d_M_waysAt_185 : decode (ab_bc mt_M_waysAt) 185 = .ok (.goto (-70), 3) := by decide +kernel
theorem d_M_waysAt_188 : decode (ab_bc mt_M_waysAt) 188 = .ok (.iconst 0, 1) := by decide +kernel
theorem d_M_waysAt_189 : decode (ab_bc mt_M_waysAt) 189 = .ok (.istore 7, 2) := by decide +kernel
theorem d_M_waysAt_191 : decode (ab_bc mt_M_waysAt) 191 = .ok (.iload 7, 2) := by decide +kernel
theorem d_M_waysAt_193 : decode (ab_bc mt_M_waysAt) 193 = .ok (.aload_n 0, 1) := by decide +kernel
theorem d_M_waysAt_194 : decode (ab_bc mt_M_waysAt) 194 = .ok (.getfield 74, 3) := by decide +kernel
theorem d_M_waysAt_197 : decode (ab_bc mt_M_waysAt) 197 = .ok (.arraylength, 1) := by decide +kernel
theorem d_M_waysAt_198 : decode (ab_bc mt_M_waysAt) 198 = .ok (.if_icmp .ge 17, 3) := by decide +kernel
theorem d_M_waysAt_201 : decode (ab_bc mt_M_waysAt) 201 = .ok (.aload_n 0, 1) := by decide +kernel
theorem d_M_waysAt_202 : decode (ab_bc mt_M_waysAt) 202 = .ok (.getfield 74, 3) := by decide +kernel
theorem d_M_waysAt_205 : decode (ab_bc mt_M_waysAt) 205 = .ok (.iload 7, 2) := by decide +kernel
theorem d_M_waysAt_207 : decode (ab_bc mt_M_waysAt) 207 = .ok (.lconst 0, 1) := by decide +kernel
theorem d_M_waysAt_208 : decode (ab_bc mt_M_waysAt) 208 = .ok (.lastore, 1) := by decide +kernel
theorem d_M_waysAt_209 : decode (ab_bc mt_M_waysAt) 209 = .ok (.iinc 7 1, 3) := by decide +kernel
theorem d_M_waysAt_212 : decode (ab_bc mt_M_waysAt) 212 = .ok (.goto (-21), 3) := by decide +kernel
theorem d_M_waysAt_215 : decode (ab_bc mt_M_waysAt) 215 = .ok (.iconst 0, 1) := by decide +kernel
theorem d_M_waysAt_216 : decode (ab_bc mt_M_waysAt) 216 = .ok (.istore 7, 2) := by decide +kernel
theorem d_M_waysAt_218 : decode (ab_bc mt_M_waysAt) 218 = .ok (.iload 7, 2) := by decide +kernel
theorem d_M_waysAt_220 : decode (ab_bc mt_M_waysAt) 220 = .ok (.aload_n 0, 1) := by decide +kernel
theorem d_M_waysAt_221 : decode (ab_bc mt_M_waysAt) 221 = .ok (.invokevirtual 234, 3) := by decide +kernel
theorem d_M_waysAt_224 : decode (ab_bc mt_M_waysAt) 224 = .ok (.if_icmp .ge 144, 3) := by decide +kernel
theorem d_M_waysAt_227 : decode (ab_bc mt_M_waysAt) 227 = .ok (.iload_n 3, 1) := by decide +kernel
theorem d_M_waysAt_228 : decode (ab_bc mt_M_waysAt) 228 = .ok (.iload 7, 2) := by decide +kernel
theorem d_M_waysAt_230 : decode (ab_bc mt_M_waysAt) 230 = .ok (.invokestatic 237, 3) := by decide +kernel
theorem d_M_waysAt_233 : decode (ab_bc mt_M_waysAt) 233 = .ok (.ifCond .ne 6, 3) := by decide +kernel
theorem d_M_waysAt_236 : decode (ab_bc mt_M_waysAt) 236 = .ok (.goto 126, 3) := by decide +kernel
theorem d_M_waysAt_239 : decode (ab_bc mt_M_waysAt) 239 = .ok (.aload_n 0, 1) := by decide +kernel
theorem d_M_waysAt_240 : decode (ab_bc mt_M_waysAt) 240 = .ok (.getfield 40, 3) := by decide +kernel
theorem d_M_waysAt_243 : decode (ab_bc mt_M_waysAt) 243 = .ok (.aload_n 0, 1) := by decide +kernel
theorem d_M_waysAt_244 : decode (ab_bc mt_M_waysAt) 244 = .ok (.getfield 24, 3) := by decide +kernel
theorem d_M_waysAt_247 : decode (ab_bc mt_M_waysAt) 247 = .ok (.iconst 3, 1) := by decide +kernel
theorem d_M_waysAt_248 : decode (ab_bc mt_M_waysAt) 248 = .ok (.iload 7, 2) := by decide +kernel
theorem d_M_waysAt_250 : decode (ab_bc mt_M_waysAt) 250 = .ok (.iadd, 1) := by decide +kernel
theorem d_M_waysAt_251 : decode (ab_bc mt_M_waysAt) 251 = .ok (.iaload, 1) := by decide +kernel
theorem d_M_waysAt_252 : decode (ab_bc mt_M_waysAt) 252 = .ok (.iaload, 1) := by decide +kernel
theorem d_M_waysAt_253 : decode (ab_bc mt_M_waysAt) 253 = .ok (.istore 8, 2) := by decide +kernel
theorem d_M_waysAt_255 : decode (ab_bc mt_M_waysAt) 255 = .ok (.aload_n 0, 1) := by decide +kernel
theorem d_M_waysAt_256 : decode (ab_bc mt_M_waysAt) 256 = .ok (.getfield 40, 3) := by decide +kernel
theorem d_M_waysAt_259 : decode (ab_bc mt_M_waysAt) 259 = .ok (.aload_n 0, 1) := by decide +kernel
theorem d_M_waysAt_260 : decode (ab_bc mt_M_waysAt) 260 = .ok (.getfield 24, 3) := by decide +kernel
theorem d_M_waysAt_263 : decode (ab_bc mt_M_waysAt) 263 = .ok (.bipush 27, 2) := by decide +kernel
theorem d_M_waysAt_265 : decode (ab_bc mt_M_waysAt) 265 = .ok (.iload 7, 2) := by decide +kernel
theorem d_M_waysAt_267 : decode (ab_bc mt_M_waysAt) 267 = .ok (.iadd, 1) := by decide +kernel
theorem d_M_waysAt_268 : decode (ab_bc mt_M_waysAt) 268 = .ok (.iaload, 1) := by decide +kernel
theorem d_M_waysAt_269 : decode (ab_bc mt_M_waysAt) 269 = .ok (.iaload, 1) := by decide +kernel
theorem d_M_waysAt_270 : decode (ab_bc mt_M_waysAt) 270 = .ok (.istore 9, 2) := by decide +kernel
theorem d_M_waysAt_272 : decode (ab_bc mt_M_waysAt) 272 = .ok (.iload 8, 2) := by decide +kernel
theorem d_M_waysAt_274 : decode (ab_bc mt_M_waysAt) 274 = .ok (.iload 9, 2) := by decide +kernel
theorem d_M_waysAt_276 : decode (ab_bc mt_M_waysAt) 276 = .ok (.if_icmp .ne 6, 3) := by decide +kernel
theorem d_M_waysAt_279 : decode (ab_bc mt_M_waysAt) 279 = .ok (.goto 83, 3) := by decide +kernel
theorem d_M_waysAt_282 : decode (ab_bc mt_M_waysAt) 282 = .ok (.aload_n 0, 1) := by decide +kernel
theorem d_M_waysAt_283 : decode (ab_bc mt_M_waysAt) 283 = .ok (.aload_n 0, 1) := by decide +kernel
theorem d_M_waysAt_284 : decode (ab_bc mt_M_waysAt) 284 = .ok (.getfield 71, 3) := by decide +kernel
theorem d_M_waysAt_287 : decode (ab_bc mt_M_waysAt) 287 = .ok (.iload 8, 2) := by decide +kernel
theorem d_M_waysAt_289 : decode (ab_bc mt_M_waysAt) 289 = .ok (.iaload, 1) := by decide +kernel
theorem d_M_waysAt_290 : decode (ab_bc mt_M_waysAt) 290 = .ok (.aload_n 0, 1) := by decide +kernel
theorem d_M_waysAt_291 : decode (ab_bc mt_M_waysAt) 291 = .ok (.getfield 71, 3) := by decide +kernel
theorem d_M_waysAt_294 : decode (ab_bc mt_M_waysAt) 294 = .ok (.iload 8, 2) := by decide +kernel
theorem d_M_waysAt_296 : decode (ab_bc mt_M_waysAt) 296 = .ok (.iaload, 1) := by decide +kernel
theorem d_M_waysAt_297 : decode (ab_bc mt_M_waysAt) 297 = .ok (.lconst 1, 1) := by decide +kernel
theorem d_M_waysAt_298 : decode (ab_bc mt_M_waysAt) 298 = .ok (.invokevirtual 375, 3) := by decide +kernel
theorem d_M_waysAt_301 : decode (ab_bc mt_M_waysAt) 301 = .ok (.aload_n 0, 1) := by decide +kernel
theorem d_M_waysAt_302 : decode (ab_bc mt_M_waysAt) 302 = .ok (.aload_n 0, 1) := by decide +kernel
theorem d_M_waysAt_303 : decode (ab_bc mt_M_waysAt) 303 = .ok (.getfield 71, 3) := by decide +kernel
theorem d_M_waysAt_306 : decode (ab_bc mt_M_waysAt) 306 = .ok (.iload 9, 2) := by decide +kernel
theorem d_M_waysAt_308 : decode (ab_bc mt_M_waysAt) 308 = .ok (.iaload, 1) := by decide +kernel
theorem d_M_waysAt_309 : decode (ab_bc mt_M_waysAt) 309 = .ok (.aload_n 0, 1) := by decide +kernel
theorem d_M_waysAt_310 : decode (ab_bc mt_M_waysAt) 310 = .ok (.getfield 71, 3) := by decide +kernel
theorem d_M_waysAt_313 : decode (ab_bc mt_M_waysAt) 313 = .ok (.iload 9, 2) := by decide +kernel
theorem d_M_waysAt_315 : decode (ab_bc mt_M_waysAt) 315 = .ok (.iaload, 1) := by decide +kernel
theorem d_M_waysAt_316 : decode (ab_bc mt_M_waysAt) 316 = .ok (.lconst 1, 1) := by decide +kernel
theorem d_M_waysAt_317 : decode (ab_bc mt_M_waysAt) 317 = .ok (.invokevirtual 375, 3) := by decide +kernel
theorem d_M_waysAt_320 : decode (ab_bc mt_M_waysAt) 320 = .ok (.aload_n 0, 1) := by decide +kernel
theorem d_M_waysAt_321 : decode (ab_bc mt_M_waysAt) 321 = .ok (.aload_n 0, 1) := by decide +kernel
theorem d_M_waysAt_322 : decode (ab_bc mt_M_waysAt) 322 = .ok (.getfield 71, 3) := by decide +kernel
theorem d_M_waysAt_325 : decode (ab_bc mt_M_waysAt) 325 = .ok (.iload 8, 2) := by decide +kernel
theorem d_M_waysAt_327 : decode (ab_bc mt_M_waysAt) 327 = .ok (.iaload, 1) := by decide +kernel
theorem d_M_waysAt_328 : decode (ab_bc mt_M_waysAt) 328 = .ok (.aload_n 0, 1) := by decide +kernel
theorem d_M_waysAt_329 : decode (ab_bc mt_M_waysAt) 329 = .ok (.getfield 71, 3) := by decide +kernel
theorem d_M_waysAt_332 : decode (ab_bc mt_M_waysAt) 332 = .ok (.iload 9, 2) := by decide +kernel
theorem d_M_waysAt_334 : decode (ab_bc mt_M_waysAt) 334 = .ok (.iaload, 1) := by decide +kernel
theorem d_M_waysAt_335 : decode (ab_bc mt_M_waysAt) 335 = .ok (.ldc2_w 379, 3) := by decide +kernel
theorem d_M_waysAt_338 : decode (ab_bc mt_M_waysAt) 338 = .ok (.invokevirtual 375, 3) := by decide +kernel
theorem d_M_waysAt_341 : decode (ab_bc mt_M_waysAt) 341 = .ok (.aload_n 0, 1) := by decide +kernel
theorem d_M_waysAt_342 : decode (ab_bc mt_M_waysAt) 342 = .ok (.aload_n 0, 1) := by decide +kernel
theorem d_M_waysAt_343 : decode (ab_bc mt_M_waysAt) 343 = .ok (.getfield 71, 3) := by decide +kernel
theorem d_M_waysAt_346 : decode (ab_bc mt_M_waysAt) 346 = .ok (.iload 9, 2) := by decide +kernel
theorem d_M_waysAt_348 : decode (ab_bc mt_M_waysAt) 348 = .ok (.iaload, 1) := by decide +kernel
theorem d_M_waysAt_349 : decode (ab_bc mt_M_waysAt) 349 = .ok (.aload_n 0, 1) := by decide +kernel
theorem d_M_waysAt_350 : decode (ab_bc mt_M_waysAt) 350 = .ok (.getfield 71, 3) := by decide +kernel
theorem d_M_waysAt_353 : decode (ab_bc mt_M_waysAt) 353 = .ok (.iload 8, 2) := by decide +kernel
theorem d_M_waysAt_355 : decode (ab_bc mt_M_waysAt) 355 = .ok (.iaload, 1) := by decide +kernel
theorem d_M_waysAt_356 : decode (ab_bc mt_M_waysAt) 356 = .ok (.ldc2_w 379, 3) := by decide +kernel
theorem d_M_waysAt_359 : decode (ab_bc mt_M_waysAt) 359 = .ok (.invokevirtual 375, 3) := by decide +kernel
theorem d_M_waysAt_362 : decode (ab_bc mt_M_waysAt) 362 = .ok (.iinc 7 1, 3) := by decide +kernel
theorem d_M_waysAt_365 : decode (ab_bc mt_M_waysAt) 365 = .ok (.goto (-147), 3) := by decide +kernel
theorem d_M_waysAt_368 : decode (ab_bc mt_M_waysAt) 368 = .ok (.aload_n 0, 1) := by decide +kernel
theorem d_M_waysAt_369 : decode (ab_bc mt_M_waysAt) 369 = .ok (.iload 6, 2) := by decide +kernel
theorem d_M_waysAt_371 : decode (ab_bc mt_M_waysAt) 371 = .ok (.invokevirtual 381, 3) := by decide +kernel
theorem d_M_waysAt_374 : decode (ab_bc mt_M_waysAt) 374 = .ok (.lreturn, 1) := by decide +kernel
-- CableKeeperModel.waysAt(I)J over mx
theorem q_M_waysAt_0 {w : ab_Wd} {d n nc ns : Nat} {I : Nat → Nat → Int32} {L : Nat → Nat → Int64} {res : ab_Re} (v1 : Int32) (hc : nc ≤ res.2.2.2.2.2.1) (hs : ns ≤ res.2.2.2.2.2.2)
    (h : ab_E w (d + 1) mt_M_waysAt 7 [.ref mx, .int v1, .int 0, .int 0, .int 0, .null, .null, .null, .null, .null] [] (I, L, ab_RR, n, nc, ns) res) : ab_E w (d + 1) mt_M_waysAt 0 [.ref mx, .int v1, .null, .null, .null, .null, .null, .null, .null, .null] [] (I, L, ab_RR, n, nc, ns) res := by
  refine ab_iconst (v := 0) d_M_waysAt_0 rfl ?_
  refine ab_istore_n (i := 2) d_M_waysAt_1 rfl (by decide) (Or.inr rfl) ?_
  refine ab_iconst (v := 0) d_M_waysAt_2 rfl ?_
  refine ab_istore_n (i := 3) d_M_waysAt_3 rfl (by decide) (Or.inr rfl) ?_
  refine ab_iconst (v := 0) d_M_waysAt_4 rfl ?_
  refine ab_istore (i := 4) d_M_waysAt_5 (by decide) (Or.inr rfl) ?_
  exact h
theorem q_M_waysAt_7 {w : ab_Wd} {d n nc ns : Nat} {I : Nat → Nat → Int32} {L : Nat → Nat → Int64} {res : ab_Re} (v1 : Int32) (v2 : Int32) (v3 : Int32) (v4 : Int32) (hc : nc ≤ res.2.2.2.2.2.1) (hs : ns ≤ res.2.2.2.2.2.2)
    (h : ∃ (r1 : Int32), ab_C w d mt_M_many [.ref mx] (I, L, ab_RR, n, nc, ns) (.inl (some (.int r1)), (I, L, ab_RR, n, nc, ns)) ∧ ((r1 ≤ v4 → (∃ (r3 : Int32) (I4 : Nat → Nat → Int32), ab_C w d mt_M_netOf [.ref mx, .int (v2 ||| v3)] (I, L, ab_RR, n, nc, ns) (.inl (some (.int r3)), (I4, L, ab_RR, n, nc, ns)) ∧ ∃ (I6 : Nat → Nat → Int32), ab_C w d mt_M_copyTo [.ref mx_level, .ref mx_piece] (I4, L, ab_RR, n, nc, ns) (.inl none, (I6, L, ab_RR, n, nc, ns)) ∧ ∃ (r7 : Int32) (I8 : Nat → Nat → Int32), ab_C w d mt_M_netOf [.ref mx, .int v2] (I6, L, ab_RR, n, nc, ns) (.inl (some (.int r7)), (I8, L, ab_RR, n, nc, ns)) ∧ ab_E w (d + 1) mt_M_waysAt 115 [.ref mx, .int v1, .int v2, .int v3, .int r3, .int r7, .int 0, .int 0, .null, .null] [] (I8, L, ab_RR, n, nc, ns) res)) ∧ (¬ r1 ≤ v4 → (∃ (r9 : Int32), ab_C w d mt_M_isSound [.ref mx, .int v4] (I, L, ab_RR, n, nc, ns) (.inl (some (.int r9)), (I, L, ab_RR, n, nc, ns)) ∧ ((r9 = 0 → (ab_E w (d + 1) mt_M_waysAt 43 [.ref mx, .int v1, .int v2, .int v3, .int v4, .null, .null, .null, .null, .null] [.int v2] (I, L, ab_RR, n, nc, ns) res)) ∧ (¬ r9 = 0 → (∃ (r11 : Int32), ab_C w d mt_M_priceOf [.ref mx, .int v4] (I, L, ab_RR, n, nc, ns) (.inl (some (.int r11)), (I, L, ab_RR, n, nc, ns)) ∧ ((v1 ≤ r11 → (ab_E w (d + 1) mt_M_waysAt 43 [.ref mx, .int v1, .int v2, .int v3, .int v4, .null, .null, .null, .null, .null] [.int v2] (I, L, ab_RR, n, nc, ns) res)) ∧ (¬ v1 ≤ r11 → (ab_E w (d + 1) mt_M_waysAt 44 [.ref mx, .int v1, .int v2, .int v3, .int v4, .null, .null, .null, .null, .null] [.int ((1 : Int32) <<< (v4 &&& 31)), .int v2] (I, L, ab_RR, n, nc, ns) res)))))))))) : ab_E w (d + 1) mt_M_waysAt 7 [.ref mx, .int v1, .int v2, .int v3, .int v4, .null, .null, .null, .null, .null] [] (I, L, ab_RR, n, nc, ns) res := by
  refine ab_iload (i := 4) d_M_waysAt_7 rfl ?_
  refine ab_aload_n (i := 0) d_M_waysAt_9 rfl rfl ?_
  obtain ⟨r1, hC, h⟩ := h
  refine ab_callV (me2 := mt_M_many) (b := mx) (as := []) (st := [.int v4]) (rv := (some (.int r1))) (M2 := (I, L, ab_RR, n, nc, ns)) d_M_waysAt_10 ce_M_many v_1635 v_1637 v_79 (by decide) rfl (Nat.le_of_ble_eq_true rfl) hC (Nat.le_refl _) (Nat.le_refl _) hc hs (fun j h9 => by cases h9) (fun _ _ => rfl) ?_
  show ab_E w (d + 1) mt_M_waysAt 13 [.ref mx, .int v1, .int v2, .int v3, .int v4, .null, .null, .null, .null, .null] [.int r1, .int v4] (I, L, ab_RR, n, nc, ns) res
  refine ab_icmp_ge (tgt := 82) d_M_waysAt_13 (by decide) (fun c2 => ?_) (fun c2 => ?_)
  · have h := h.1 c2
    refine ab_aload_n (i := 0) d_M_waysAt_82 rfl rfl ?_
    refine ab_iload_n (i := 2) d_M_waysAt_83 rfl rfl ?_
    refine ab_iload_n (i := 3) d_M_waysAt_84 rfl rfl ?_
    refine ab_ior d_M_waysAt_85 ?_
    obtain ⟨r3, I4, hC, h⟩ := h
    refine ab_callV (me2 := mt_M_netOf) (b := mx) (as := [.int (v2 ||| v3)]) (st := []) (rv := (some (.int r3))) (M2 := (I4, L, ab_RR, n, nc, ns)) d_M_waysAt_86 ce_M_netOf v_1643 v_1645 v_81 (by decide) rfl (Nat.le_of_ble_eq_true rfl) hC (Nat.le_refl _) (Nat.le_refl _) hc hs (fun j h9 => by cases h9) (fun _ _ => rfl) ?_
    show ab_E w (d + 1) mt_M_waysAt 89 [.ref mx, .int v1, .int v2, .int v3, .int v4, .null, .null, .null, .null, .null] [.int r3] (I4, L, ab_RR, n, nc, ns) res
    refine ab_istore (i := 4) d_M_waysAt_89 (by decide) (Or.inr rfl) ?_
    refine ab_aload_n (i := 0) d_M_waysAt_91 rfl rfl ?_
    refine ab_getR (ci := 11) (k := 34) (j := mx_level) d_M_waysAt_92 v_1402 rfl (by decide) (by decide) rfl r_mx_34 ?_
    refine ab_aload_n (i := 0) d_M_waysAt_95 rfl rfl ?_
    refine ab_getR (ci := 11) (k := 19) (j := mx_piece) d_M_waysAt_96 v_1387 rfl (by decide) (by decide) rfl r_mx_19 ?_
    obtain ⟨I6, hC, h⟩ := h
    refine ab_callS (me2 := mt_M_copyTo) (as := [.ref mx_level, .ref mx_piece]) (st := []) (rv := none) (M2 := (I6, L, ab_RR, n, nc, ns)) d_M_waysAt_99 ce_M_copyTo ⟨v_1625, Or.inl v_1624⟩ (Nat.le_of_ble_eq_true rfl) hC (Nat.le_refl _) (Nat.le_refl _) hc hs (fun j h9 => by cases h9) (fun _ _ => rfl) ?_
    show ab_E w (d + 1) mt_M_waysAt 102 [.ref mx, .int v1, .int v2, .int v3, .int r3, .null, .null, .null, .null, .null] [] (I6, L, ab_RR, n, nc, ns) res
    refine ab_aload_n (i := 0) d_M_waysAt_102 rfl rfl ?_
    refine ab_iload_n (i := 2) d_M_waysAt_103 rfl rfl ?_
    obtain ⟨r7, I8, hC, h⟩ := h
    refine ab_callV (me2 := mt_M_netOf) (b := mx) (as := [.int v2]) (st := []) (rv := (some (.int r7))) (M2 := (I8, L, ab_RR, n, nc, ns)) d_M_waysAt_104 ce_M_netOf v_1643 v_1645 v_81 (by decide) rfl (Nat.le_of_ble_eq_true rfl) hC (Nat.le_refl _) (Nat.le_refl _) hc hs (fun j h9 => by cases h9) (fun _ _ => rfl) ?_
    show ab_E w (d + 1) mt_M_waysAt 107 [.ref mx, .int v1, .int v2, .int v3, .int r3, .null, .null, .null, .null, .null] [.int r7] (I8, L, ab_RR, n, nc, ns) res
    refine ab_istore (i := 5) d_M_waysAt_107 (by decide) (Or.inr rfl) ?_
    refine ab_iconst (v := 0) d_M_waysAt_109 rfl ?_
    refine ab_istore (i := 6) d_M_waysAt_110 (by decide) (Or.inr rfl) ?_
    refine ab_iconst (v := 0) d_M_waysAt_112 rfl ?_
    refine ab_istore (i := 7) d_M_waysAt_113 (by decide) (Or.inr rfl) ?_
    exact h
  · have h := h.2 c2
    refine ab_iload_n (i := 2) d_M_waysAt_16 rfl rfl ?_
    refine ab_aload_n (i := 0) d_M_waysAt_17 rfl rfl ?_
    refine ab_iload (i := 4) d_M_waysAt_18 rfl ?_
    obtain ⟨r9, hC, h⟩ := h
    refine ab_callV (me2 := mt_M_isSound) (b := mx) (as := [.int v4]) (st := [.int v2]) (rv := (some (.int r9))) (M2 := (I, L, ab_RR, n, nc, ns)) d_M_waysAt_20 ce_M_isSound v_1679 v_1681 v_89 (by decide) rfl (Nat.le_of_ble_eq_true rfl) hC (Nat.le_refl _) (Nat.le_refl _) hc hs (fun j h9 => by cases h9) (fun _ _ => rfl) ?_
    show ab_E w (d + 1) mt_M_waysAt 23 [.ref mx, .int v1, .int v2, .int v3, .int v4, .null, .null, .null, .null, .null] [.int r9, .int v2] (I, L, ab_RR, n, nc, ns) res
    refine ab_if_eq (tgt := 43) d_M_waysAt_23 (by decide) (fun c10 => ?_) (fun c10 => ?_)
    · have h := h.1 c10
      exact h
    · have h := h.2 c10
      refine ab_aload_n (i := 0) d_M_waysAt_26 rfl rfl ?_
      refine ab_iload (i := 4) d_M_waysAt_27 rfl ?_
      obtain ⟨r11, hC, h⟩ := h
      refine ab_callV (me2 := mt_M_priceOf) (b := mx) (as := [.int v4]) (st := [.int v2]) (rv := (some (.int r11))) (M2 := (I, L, ab_RR, n, nc, ns)) d_M_waysAt_29 ce_M_priceOf v_1654 v_1656 v_83 (by decide) rfl (Nat.le_of_ble_eq_true rfl) hC (Nat.le_refl _) (Nat.le_refl _) hc hs (fun j h9 => by cases h9) (fun _ _ => rfl) ?_
      show ab_E w (d + 1) mt_M_waysAt 32 [.ref mx, .int v1, .int v2, .int v3, .int v4, .null, .null, .null, .null, .null] [.int r11, .int v2] (I, L, ab_RR, n, nc, ns) res
      refine ab_iload_n (i := 1) d_M_waysAt_32 rfl rfl ?_
      refine ab_icmp_ge (tgt := 43) d_M_waysAt_33 (by decide) (fun c12 => ?_) (fun c12 => ?_)
      · have h := h.1 c12
        exact h
      · have h := h.2 c12
        refine ab_iconst (v := 1) d_M_waysAt_36 rfl ?_
        refine ab_iload (i := 4) d_M_waysAt_37 rfl ?_
        refine ab_ishl d_M_waysAt_39 ?_
        refine ab_goto (tgt := 44) d_M_waysAt_40 (by decide) ?_
        exact h
theorem q_M_waysAt_43 {w : ab_Wd} {d n nc ns : Nat} {I : Nat → Nat → Int32} {L : Nat → Nat → Int64} {res : ab_Re} (v1 : Int32) (v2 : Int32) (v3 : Int32) (v4 : Int32) (s0 : Int32) (hc : nc ≤ res.2.2.2.2.2.1) (hs : ns ≤ res.2.2.2.2.2.2)
    (h : ab_E w (d + 1) mt_M_waysAt 44 [.ref mx, .int v1, .int v2, .int v3, .int v4, .null, .null, .null, .null, .null] [.int 0, .int s0] (I, L, ab_RR, n, nc, ns) res) : ab_E w (d + 1) mt_M_waysAt 43 [.ref mx, .int v1, .int v2, .int v3, .int v4, .null, .null, .null, .null, .null] [.int s0] (I, L, ab_RR, n, nc, ns) res := by
  refine ab_iconst (v := 0) d_M_waysAt_43 rfl ?_
  exact h
theorem q_M_waysAt_44 {w : ab_Wd} {d n nc ns : Nat} {I : Nat → Nat → Int32} {L : Nat → Nat → Int64} {res : ab_Re} (v1 : Int32) (v2 : Int32) (v3 : Int32) (v4 : Int32) (s0 : Int32) (s1 : Int32) (hc : nc ≤ res.2.2.2.2.2.1) (hs : ns ≤ res.2.2.2.2.2.2)
    (h : ∃ (r1 : Int32), ab_C w d mt_M_isSound [.ref mx, .int v4] (I, L, ab_RR, n, nc, ns) (.inl (some (.int r1)), (I, L, ab_RR, n, nc, ns)) ∧ ((r1 = 0 → (ab_E w (d + 1) mt_M_waysAt 73 [.ref mx, .int v1, .int (s0 ||| s1), .int v3, .int v4, .null, .null, .null, .null, .null] [.int v3] (I, L, ab_RR, n, nc, ns) res)) ∧ (¬ r1 = 0 → (∃ (r3 : Int32), ab_C w d mt_M_priceOf [.ref mx, .int v4] (I, L, ab_RR, n, nc, ns) (.inl (some (.int r3)), (I, L, ab_RR, n, nc, ns)) ∧ ((¬ r3 = v1 → (ab_E w (d + 1) mt_M_waysAt 73 [.ref mx, .int v1, .int (s0 ||| s1), .int v3, .int v4, .null, .null, .null, .null, .null] [.int v3] (I, L, ab_RR, n, nc, ns) res)) ∧ (r3 = v1 → (ab_E w (d + 1) mt_M_waysAt 74 [.ref mx, .int v1, .int (s0 ||| s1), .int v3, .int v4, .null, .null, .null, .null, .null] [.int ((1 : Int32) <<< (v4 &&& 31)), .int v3] (I, L, ab_RR, n, nc, ns) res))))))) : ab_E w (d + 1) mt_M_waysAt 44 [.ref mx, .int v1, .int v2, .int v3, .int v4, .null, .null, .null, .null, .null] [.int s1, .int s0] (I, L, ab_RR, n, nc, ns) res := by
  refine ab_ior d_M_waysAt_44 ?_
  refine ab_istore_n (i := 2) d_M_waysAt_45 rfl (by decide) (Or.inr rfl) ?_
  refine ab_iload_n (i := 3) d_M_waysAt_46 rfl rfl ?_
  refine ab_aload_n (i := 0) d_M_waysAt_47 rfl rfl ?_
  refine ab_iload (i := 4) d_M_waysAt_48 rfl ?_
  obtain ⟨r1, hC, h⟩ := h
  refine ab_callV (me2 := mt_M_isSound) (b := mx) (as := [.int v4]) (st := [.int v3]) (rv := (some (.int r1))) (M2 := (I, L, ab_RR, n, nc, ns)) d_M_waysAt_50 ce_M_isSound v_1679 v_1681 v_89 (by decide) rfl (Nat.le_of_ble_eq_true rfl) hC (Nat.le_refl _) (Nat.le_refl _) hc hs (fun j h9 => by cases h9) (fun _ _ => rfl) ?_
  show ab_E w (d + 1) mt_M_waysAt 53 [.ref mx, .int v1, .int (s0 ||| s1), .int v3, .int v4, .null, .null, .null, .null, .null] [.int r1, .int v3] (I, L, ab_RR, n, nc, ns) res
  refine ab_if_eq (tgt := 73) d_M_waysAt_53 (by decide) (fun c2 => ?_) (fun c2 => ?_)
  · have h := h.1 c2
    exact h
  · have h := h.2 c2
    refine ab_aload_n (i := 0) d_M_waysAt_56 rfl rfl ?_
    refine ab_iload (i := 4) d_M_waysAt_57 rfl ?_
    obtain ⟨r3, hC, h⟩ := h
    refine ab_callV (me2 := mt_M_priceOf) (b := mx) (as := [.int v4]) (st := [.int v3]) (rv := (some (.int r3))) (M2 := (I, L, ab_RR, n, nc, ns)) d_M_waysAt_59 ce_M_priceOf v_1654 v_1656 v_83 (by decide) rfl (Nat.le_of_ble_eq_true rfl) hC (Nat.le_refl _) (Nat.le_refl _) hc hs (fun j h9 => by cases h9) (fun _ _ => rfl) ?_
    show ab_E w (d + 1) mt_M_waysAt 62 [.ref mx, .int v1, .int (s0 ||| s1), .int v3, .int v4, .null, .null, .null, .null, .null] [.int r3, .int v3] (I, L, ab_RR, n, nc, ns) res
    refine ab_iload_n (i := 1) d_M_waysAt_62 rfl rfl ?_
    refine ab_icmp_ne (tgt := 73) d_M_waysAt_63 (by decide) (fun c4 => ?_) (fun c4 => ?_)
    · have h := h.1 c4
      exact h
    · have h := h.2 c4
      refine ab_iconst (v := 1) d_M_waysAt_66 rfl ?_
      refine ab_iload (i := 4) d_M_waysAt_67 rfl ?_
      refine ab_ishl d_M_waysAt_69 ?_
      refine ab_goto (tgt := 74) d_M_waysAt_70 (by decide) ?_
      exact h
theorem q_M_waysAt_73 {w : ab_Wd} {d n nc ns : Nat} {I : Nat → Nat → Int32} {L : Nat → Nat → Int64} {res : ab_Re} (v1 : Int32) (v2 : Int32) (v3 : Int32) (v4 : Int32) (s0 : Int32) (hc : nc ≤ res.2.2.2.2.2.1) (hs : ns ≤ res.2.2.2.2.2.2)
    (h : ab_E w (d + 1) mt_M_waysAt 74 [.ref mx, .int v1, .int v2, .int v3, .int v4, .null, .null, .null, .null, .null] [.int 0, .int s0] (I, L, ab_RR, n, nc, ns) res) : ab_E w (d + 1) mt_M_waysAt 73 [.ref mx, .int v1, .int v2, .int v3, .int v4, .null, .null, .null, .null, .null] [.int s0] (I, L, ab_RR, n, nc, ns) res := by
  refine ab_iconst (v := 0) d_M_waysAt_73 rfl ?_
  exact h
theorem q_M_waysAt_74 {w : ab_Wd} {d n nc ns : Nat} {I : Nat → Nat → Int32} {L : Nat → Nat → Int64} {res : ab_Re} (v1 : Int32) (v2 : Int32) (v3 : Int32) (v4 : Int32) (s0 : Int32) (s1 : Int32) (hc : nc ≤ res.2.2.2.2.2.1) (hs : ns ≤ res.2.2.2.2.2.2)
    (h : ab_E w (d + 1) mt_M_waysAt 7 [.ref mx, .int v1, .int v2, .int (s0 ||| s1), .int (v4 + 1), .null, .null, .null, .null, .null] [] (I, L, ab_RR, n, nc, ns) res) : ab_E w (d + 1) mt_M_waysAt 74 [.ref mx, .int v1, .int v2, .int v3, .int v4, .null, .null, .null, .null, .null] [.int s1, .int s0] (I, L, ab_RR, n, nc, ns) res := by
  refine ab_ior d_M_waysAt_74 ?_
  refine ab_istore_n (i := 3) d_M_waysAt_75 rfl (by decide) (Or.inr rfl) ?_
  refine ab_iinc (i := 4) (v := (v4 + 1)) d_M_waysAt_76 rfl rfl (by decide) (Or.inr rfl) ?_
  refine ab_goto (tgt := 7) d_M_waysAt_79 (by decide) ?_
  exact h
theorem q_M_waysAt_115 {w : ab_Wd} {d n nc ns : Nat} {I : Nat → Nat → Int32} {L : Nat → Nat → Int64} {res : ab_Re} (v1 : Int32) (v2 : Int32) (v3 : Int32) (v4 : Int32) (v5 : Int32) (v6 : Int32) (v7 : Int32) (hc : nc ≤ res.2.2.2.2.2.1) (hs : ns ≤ res.2.2.2.2.2.2)
    (h : (((I mx 2) ≤ v7 → (ab_E w (d + 1) mt_M_waysAt 191 [.ref mx, .int v1, .int v2, .int v3, .int v4, .int v5, .int v6, .int 0, .null, .null] [] (I, L, ab_RR, n, nc, ns) res)) ∧ (¬ (I mx 2) ≤ v7 → ((vp_in v7 10) ∧ ((¬ (I mx_piece v7.toNatClampNeg) = v7 → (ab_E w (d + 1) mt_M_waysAt 159 [.ref mx, .int v1, .int v2, .int v3, .int v4, .int v5, .int v6, .int v7, .null, .null] [.int v7, .ref mx_column] (I, L, ab_RR, n, nc, ns) res)) ∧ ((I mx_piece v7.toNatClampNeg) = v7 → (((I mx_level v7.toNatClampNeg) = v7 → (ab_E w (d + 1) mt_M_waysAt 159 [.ref mx, .int v1, .int v2, .int v3, .int v4, .int v5, .int v6, .int v7, .null, .null] [.int v7, .ref mx_column] (I, L, ab_RR, n, nc, ns) res)) ∧ (¬ (I mx_level v7.toNatClampNeg) = v7 → (ab_E w (d + 1) mt_M_waysAt 160 [.ref mx, .int v1, .int v2, .int v3, .int v4, .int v5, .int v6, .int v7, .null, .null] [.int v6, .int v7, .ref mx_column] (I, L, ab_RR, n, nc, ns) res))))))))) : ab_E w (d + 1) mt_M_waysAt 115 [.ref mx, .int v1, .int v2, .int v3, .int v4, .int v5, .int v6, .int v7, .null, .null] [] (I, L, ab_RR, n, nc, ns) res := by
  refine ab_iload (i := 7) d_M_waysAt_115 rfl ?_
  refine ab_aload_n (i := 0) d_M_waysAt_117 rfl rfl ?_
  refine ab_getI (ci := 11) (k := 2) d_M_waysAt_118 v_1370 rfl (by decide) (by decide) rfl ?_
  refine ab_icmp_ge (tgt := 188) d_M_waysAt_121 (by decide) (fun c1 => ?_) (fun c1 => ?_)
  · have h := h.1 c1
    refine ab_iconst (v := 0) d_M_waysAt_188 rfl ?_
    refine ab_istore (i := 7) d_M_waysAt_189 (by decide) (Or.inr rfl) ?_
    exact h
  · have h := h.2 c1
    refine ab_aload_n (i := 0) d_M_waysAt_124 rfl rfl ?_
    refine ab_getR (ci := 11) (k := 35) (j := mx_column) d_M_waysAt_125 v_1403 rfl (by decide) (by decide) rfl r_mx_35 ?_
    refine ab_iload (i := 7) d_M_waysAt_128 rfl ?_
    refine ab_aload_n (i := 0) d_M_waysAt_130 rfl rfl ?_
    refine ab_getR (ci := 11) (k := 19) (j := mx_piece) d_M_waysAt_131 v_1387 rfl (by decide) (by decide) rfl r_mx_19 ?_
    refine ab_iload (i := 7) d_M_waysAt_134 rfl ?_
    have g2 := h.1; have h := h.2
    refine ab_iald d_M_waysAt_136 rfl rfl g2 ?_
    refine ab_iload (i := 7) d_M_waysAt_137 rfl ?_
    refine ab_icmp_ne (tgt := 159) d_M_waysAt_139 (by decide) (fun c3 => ?_) (fun c3 => ?_)
    · have h := h.1 c3
      exact h
    · have h := h.2 c3
      refine ab_aload_n (i := 0) d_M_waysAt_142 rfl rfl ?_
      refine ab_getR (ci := 11) (k := 34) (j := mx_level) d_M_waysAt_143 v_1402 rfl (by decide) (by decide) rfl r_mx_34 ?_
      refine ab_iload (i := 7) d_M_waysAt_146 rfl ?_
      refine ab_iald d_M_waysAt_148 rfl rfl g2 ?_
      refine ab_iload (i := 7) d_M_waysAt_149 rfl ?_
      refine ab_icmp_eq (tgt := 159) d_M_waysAt_151 (by decide) (fun c4 => ?_) (fun c4 => ?_)
      · have h := h.1 c4
        exact h
      · have h := h.2 c4
        refine ab_iload (i := 6) d_M_waysAt_154 rfl ?_
        refine ab_goto (tgt := 160) d_M_waysAt_156 (by decide) ?_
        exact h
theorem q_M_waysAt_159 {w : ab_Wd} {d n nc ns : Nat} {I : Nat → Nat → Int32} {L : Nat → Nat → Int64} {res : ab_Re} (v1 : Int32) (v2 : Int32) (v3 : Int32) (v4 : Int32) (v5 : Int32) (v6 : Int32) (v7 : Int32) (s1 : Int32) (hc : nc ≤ res.2.2.2.2.2.1) (hs : ns ≤ res.2.2.2.2.2.2)
    (h : ab_E w (d + 1) mt_M_waysAt 160 [.ref mx, .int v1, .int v2, .int v3, .int v4, .int v5, .int v6, .int v7, .null, .null] [.int (-1), .int s1, .ref mx_column] (I, L, ab_RR, n, nc, ns) res) : ab_E w (d + 1) mt_M_waysAt 159 [.ref mx, .int v1, .int v2, .int v3, .int v4, .int v5, .int v6, .int v7, .null, .null] [.int s1, .ref mx_column] (I, L, ab_RR, n, nc, ns) res := by
  refine ab_iconst (v := (-1)) d_M_waysAt_159 rfl ?_
  exact h
theorem q_M_waysAt_160 {w : ab_Wd} {d n nc ns : Nat} {I : Nat → Nat → Int32} {L : Nat → Nat → Int64} {res : ab_Re} (v1 : Int32) (v2 : Int32) (v3 : Int32) (v4 : Int32) (v5 : Int32) (v6 : Int32) (v7 : Int32) (s1 : Int32) (s2 : Int32) (hc : nc ≤ res.2.2.2.2.2.1) (hs : ns ≤ res.2.2.2.2.2.2)
    (h : (vp_in s1 10) ∧ (vp_in v7 10) ∧ ((¬ ((ab_up I mx_column s1.toNatClampNeg s2) mx_column v7.toNatClampNeg) = (-1) → (ab_E w (d + 1) mt_M_waysAt 179 [.ref mx, .int v1, .int v2, .int v3, .int v4, .int v5, .int v6, .int v7, .null, .null] [.int 1, .int v6] ((ab_up I mx_column s1.toNatClampNeg s2), L, ab_RR, n, nc, ns) res)) ∧ (((ab_up I mx_column s1.toNatClampNeg s2) mx_column v7.toNatClampNeg) = (-1) → (ab_E w (d + 1) mt_M_waysAt 179 [.ref mx, .int v1, .int v2, .int v3, .int v4, .int v5, .int v6, .int v7, .null, .null] [.int 0, .int v6] ((ab_up I mx_column s1.toNatClampNeg s2), L, ab_RR, n, nc, ns) res)))) : ab_E w (d + 1) mt_M_waysAt 160 [.ref mx, .int v1, .int v2, .int v3, .int v4, .int v5, .int v6, .int v7, .null, .null] [.int s2, .int s1, .ref mx_column] (I, L, ab_RR, n, nc, ns) res := by
  have g1 := h.1; have h := h.2
  refine ab_iast d_M_waysAt_160 rfl rfl g1 ?_
  refine ab_iload (i := 6) d_M_waysAt_161 rfl ?_
  refine ab_aload_n (i := 0) d_M_waysAt_163 rfl rfl ?_
  refine ab_getR (ci := 11) (k := 35) (j := mx_column) d_M_waysAt_164 v_1403 rfl (by decide) (by decide) rfl r_mx_35 ?_
  refine ab_iload (i := 7) d_M_waysAt_167 rfl ?_
  have g2 := h.1; have h := h.2
  refine ab_iald d_M_waysAt_169 rfl rfl g2 ?_
  refine ab_iconst (v := (-1)) d_M_waysAt_170 rfl ?_
  refine ab_icmp_ne (tgt := 178) d_M_waysAt_171 (by decide) (fun c3 => ?_) (fun c3 => ?_)
  · have h := h.1 c3
    refine ab_iconst (v := 1) d_M_waysAt_178 rfl ?_
    exact h
  · have h := h.2 c3
    refine ab_iconst (v := 0) d_M_waysAt_174 rfl ?_
    refine ab_goto (tgt := 179) d_M_waysAt_175 (by decide) ?_
    exact h
theorem q_M_waysAt_179 {w : ab_Wd} {d n nc ns : Nat} {I : Nat → Nat → Int32} {L : Nat → Nat → Int64} {res : ab_Re} (v1 : Int32) (v2 : Int32) (v3 : Int32) (v4 : Int32) (v5 : Int32) (v6 : Int32) (v7 : Int32) (s0 : Int32) (s1 : Int32) (hc : nc ≤ res.2.2.2.2.2.1) (hs : ns ≤ res.2.2.2.2.2.2)
    (h : ab_E w (d + 1) mt_M_waysAt 115 [.ref mx, .int v1, .int v2, .int v3, .int v4, .int v5, .int (s0 + s1), .int (v7 + 1), .null, .null] [] (I, L, ab_RR, n, nc, ns) res) : ab_E w (d + 1) mt_M_waysAt 179 [.ref mx, .int v1, .int v2, .int v3, .int v4, .int v5, .int v6, .int v7, .null, .null] [.int s1, .int s0] (I, L, ab_RR, n, nc, ns) res := by
  refine ab_iadd d_M_waysAt_179 ?_
  refine ab_istore (i := 6) d_M_waysAt_180 (by decide) (Or.inr rfl) ?_
  refine ab_iinc (i := 7) (v := (v7 + 1)) d_M_waysAt_182 rfl rfl (by decide) (Or.inr rfl) ?_
  refine ab_goto (tgt := 115) d_M_waysAt_185 (by decide) ?_
  exact h
theorem q_M_waysAt_191 {w : ab_Wd} {d n nc ns : Nat} {I : Nat → Nat → Int32} {L : Nat → Nat → Int64} {res : ab_Re} (v1 : Int32) (v2 : Int32) (v3 : Int32) (v4 : Int32) (v5 : Int32) (v6 : Int32) (v7 : Int32) (hc : nc ≤ res.2.2.2.2.2.1) (hs : ns ≤ res.2.2.2.2.2.2)
    (h : ((100 ≤ v7 → (ab_E w (d + 1) mt_M_waysAt 218 [.ref mx, .int v1, .int v2, .int v3, .int v4, .int v5, .int v6, .int 0, .null, .null] [] (I, L, ab_RR, n, nc, ns) res)) ∧ (¬ 100 ≤ v7 → ((vp_in v7 100) ∧ ab_E w (d + 1) mt_M_waysAt 191 [.ref mx, .int v1, .int v2, .int v3, .int v4, .int v5, .int v6, .int (v7 + 1), .null, .null] [] (I, (ab_upL L mx_laplace v7.toNatClampNeg 0), ab_RR, n, nc, ns) res)))) : ab_E w (d + 1) mt_M_waysAt 191 [.ref mx, .int v1, .int v2, .int v3, .int v4, .int v5, .int v6, .int v7, .null, .null] [] (I, L, ab_RR, n, nc, ns) res := by
  refine ab_iload (i := 7) d_M_waysAt_191 rfl ?_
  refine ab_aload_n (i := 0) d_M_waysAt_193 rfl rfl ?_
  refine ab_getR (ci := 11) (k := 36) (j := mx_laplace) d_M_waysAt_194 v_1404 rfl (by decide) (by decide) rfl r_mx_36 ?_
  refine ab_alen (v := 100) d_M_waysAt_197 (by decide) (by decide) rfl ?_
  refine ab_icmp_ge (tgt := 215) d_M_waysAt_198 (by decide) (fun c1 => ?_) (fun c1 => ?_)
  · have h := h.1 c1
    refine ab_iconst (v := 0) d_M_waysAt_215 rfl ?_
    refine ab_istore (i := 7) d_M_waysAt_216 (by decide) (Or.inr rfl) ?_
    exact h
  · have h := h.2 c1
    refine ab_aload_n (i := 0) d_M_waysAt_201 rfl rfl ?_
    refine ab_getR (ci := 11) (k := 36) (j := mx_laplace) d_M_waysAt_202 v_1404 rfl (by decide) (by decide) rfl r_mx_36 ?_
    refine ab_iload (i := 7) d_M_waysAt_205 rfl ?_
    refine ab_lconst (v := 0) d_M_waysAt_207 rfl ?_
    have g2 := h.1; have h := h.2
    refine ab_last d_M_waysAt_208 rfl rfl g2 ?_
    refine ab_iinc (i := 7) (v := (v7 + 1)) d_M_waysAt_209 rfl rfl (by decide) (Or.inr rfl) ?_
    refine ab_goto (tgt := 191) d_M_waysAt_212 (by decide) ?_
    exact h
theorem q_M_waysAt_218 {w : ab_Wd} {d n nc ns : Nat} {I : Nat → Nat → Int32} {L : Nat → Nat → Int64} {res : ab_Re} (v1 : Int32) (v2 : Int32) (v3 : Int32) (v4 : Int32) (v5 : Int32) (v6 : Int32) (v7 : Int32) (hc : nc ≤ res.2.2.2.2.2.1) (hs : ns ≤ res.2.2.2.2.2.2)
    (h : ∃ (r1 : Int32), ab_C w d mt_M_many [.ref mx] (I, L, ab_RR, n, nc, ns) (.inl (some (.int r1)), (I, L, ab_RR, n, nc, ns)) ∧ ((r1 ≤ v7 → (∃ (r3 : Int64) (L4 : Nat → Nat → Int64), ab_C w d mt_M_determinant [.ref mx, .int v6] (I, L, ab_RR, n, nc, ns) (.inl (some (.long r3)), (I, L4, ab_RR, n, nc, ns)) ∧ res = (.inl (some (.long r3)), (I, L4, ab_RR, n, nc, ns)))) ∧ (¬ r1 ≤ v7 → (∃ (r5 : Int32), ab_C w d mt_M_has [.int v3, .int v7] (I, L, ab_RR, n, nc, ns) (.inl (some (.int r5)), (I, L, ab_RR, n, nc, ns)) ∧ ((¬ r5 = 0 → ((vp_in (3 + v7) 399) ∧ (vp_in (I mx_now (3 + v7).toNatClampNeg) 10) ∧ (vp_in (27 + v7) 399) ∧ (vp_in (I mx_now (27 + v7).toNatClampNeg) 10) ∧ ((¬ (I mx_piece (I mx_now (3 + v7).toNatClampNeg).toNatClampNeg) = (I mx_piece (I mx_now (27 + v7).toNatClampNeg).toNatClampNeg) → ((vp_in (I mx_piece (I mx_now (3 + v7).toNatClampNeg).toNatClampNeg) 10) ∧ ∃ (L14 : Nat → Nat → Int64), ab_C w d mt_M_lays [.ref mx, .int (I mx_column (I mx_piece (I mx_now (3 + v7).toNatClampNeg).toNatClampNeg).toNatClampNeg), .int (I mx_column (I mx_piece (I mx_now (3 + v7).toNatClampNeg).toNatClampNeg).toNatClampNeg), .long 1] (I, L, ab_RR, n, nc, ns) (.inl none, (I, L14, ab_RR, n, nc, ns)) ∧ (vp_in (I mx_piece (I mx_now (27 + v7).toNatClampNeg).toNatClampNeg) 10) ∧ ∃ (L17 : Nat → Nat → Int64), ab_C w d mt_M_lays [.ref mx, .int (I mx_column (I mx_piece (I mx_now (27 + v7).toNatClampNeg).toNatClampNeg).toNatClampNeg), .int (I mx_column (I mx_piece (I mx_now (27 + v7).toNatClampNeg).toNatClampNeg).toNatClampNeg), .long 1] (I, L14, ab_RR, n, nc, ns) (.inl none, (I, L17, ab_RR, n, nc, ns)) ∧ ∃ (L19 : Nat → Nat → Int64), ab_C w d mt_M_lays [.ref mx, .int (I mx_column (I mx_piece (I mx_now (3 + v7).toNatClampNeg).toNatClampNeg).toNatClampNeg), .int (I mx_column (I mx_piece (I mx_now (27 + v7).toNatClampNeg).toNatClampNeg).toNatClampNeg), .long (-1)] (I, L17, ab_RR, n, nc, ns) (.inl none, (I, L19, ab_RR, n, nc, ns)) ∧ ∃ (L21 : Nat → Nat → Int64), ab_C w d mt_M_lays [.ref mx, .int (I mx_column (I mx_piece (I mx_now (27 + v7).toNatClampNeg).toNatClampNeg).toNatClampNeg), .int (I mx_column (I mx_piece (I mx_now (3 + v7).toNatClampNeg).toNatClampNeg).toNatClampNeg), .long (-1)] (I, L19, ab_RR, n, nc, ns) (.inl none, (I, L21, ab_RR, n, nc, ns)) ∧ ab_E w (d + 1) mt_M_waysAt 362 [.ref mx, .int v1, .int v2, .int v3, .int v4, .int v5, .int v6, .int v7, .null, .null] [] (I, L21, ab_RR, n, nc, ns) res)) ∧ ((I mx_piece (I mx_now (3 + v7).toNatClampNeg).toNatClampNeg) = (I mx_piece (I mx_now (27 + v7).toNatClampNeg).toNatClampNeg) → (ab_E w (d + 1) mt_M_waysAt 362 [.ref mx, .int v1, .int v2, .int v3, .int v4, .int v5, .int v6, .int v7, .null, .null] [] (I, L, ab_RR, n, nc, ns) res))))) ∧ (r5 = 0 → (ab_E w (d + 1) mt_M_waysAt 362 [.ref mx, .int v1, .int v2, .int v3, .int v4, .int v5, .int v6, .int v7, .null, .null] [] (I, L, ab_RR, n, nc, ns) res))))))) : ab_E w (d + 1) mt_M_waysAt 218 [.ref mx, .int v1, .int v2, .int v3, .int v4, .int v5, .int v6, .int v7, .null, .null] [] (I, L, ab_RR, n, nc, ns) res := by
  refine ab_iload (i := 7) d_M_waysAt_218 rfl ?_
  refine ab_aload_n (i := 0) d_M_waysAt_220 rfl rfl ?_
  obtain ⟨r1, hC, h⟩ := h
  refine ab_callV (me2 := mt_M_many) (b := mx) (as := []) (st := [.int v7]) (rv := (some (.int r1))) (M2 := (I, L, ab_RR, n, nc, ns)) d_M_waysAt_221 ce_M_many v_1635 v_1637 v_79 (by decide) rfl (Nat.le_of_ble_eq_true rfl) hC (Nat.le_refl _) (Nat.le_refl _) hc hs (fun j h9 => by cases h9) (fun _ _ => rfl) ?_
  show ab_E w (d + 1) mt_M_waysAt 224 [.ref mx, .int v1, .int v2, .int v3, .int v4, .int v5, .int v6, .int v7, .null, .null] [.int r1, .int v7] (I, L, ab_RR, n, nc, ns) res
  refine ab_icmp_ge (tgt := 368) d_M_waysAt_224 (by decide) (fun c2 => ?_) (fun c2 => ?_)
  · have h := h.1 c2
    refine ab_aload_n (i := 0) d_M_waysAt_368 rfl rfl ?_
    refine ab_iload (i := 6) d_M_waysAt_369 rfl ?_
    obtain ⟨r3, L4, hC, h⟩ := h
    refine ab_callV (me2 := mt_M_determinant) (b := mx) (as := [.int v6]) (st := []) (rv := (some (.long r3))) (M2 := (I, L4, ab_RR, n, nc, ns)) d_M_waysAt_371 ce_M_determinant v_1836 v_1838 v_118 (by decide) rfl (Nat.le_of_ble_eq_true rfl) hC (Nat.le_refl _) (Nat.le_refl _) hc hs (fun j h9 => by cases h9) (fun _ _ => rfl) ?_
    show ab_E w (d + 1) mt_M_waysAt 374 [.ref mx, .int v1, .int v2, .int v3, .int v4, .int v5, .int v6, .int v7, .null, .null] [.long r3] (I, L4, ab_RR, n, nc, ns) res
    exact ab_lret d_M_waysAt_374 rfl h
  · have h := h.2 c2
    refine ab_iload_n (i := 3) d_M_waysAt_227 rfl rfl ?_
    refine ab_iload (i := 7) d_M_waysAt_228 rfl ?_
    obtain ⟨r5, hC, h⟩ := h
    refine ab_callS (me2 := mt_M_has) (as := [.int v3, .int v7]) (st := []) (rv := (some (.int r5))) (M2 := (I, L, ab_RR, n, nc, ns)) d_M_waysAt_230 ce_M_has ⟨v_1648, Or.inl v_1647⟩ (Nat.le_of_ble_eq_true rfl) hC (Nat.le_refl _) (Nat.le_refl _) hc hs (fun j h9 => by cases h9) (fun _ _ => rfl) ?_
    show ab_E w (d + 1) mt_M_waysAt 233 [.ref mx, .int v1, .int v2, .int v3, .int v4, .int v5, .int v6, .int v7, .null, .null] [.int r5] (I, L, ab_RR, n, nc, ns) res
    refine ab_if_ne (tgt := 239) d_M_waysAt_233 (by decide) (fun c6 => ?_) (fun c6 => ?_)
    · have h := h.1 c6
      refine ab_aload_n (i := 0) d_M_waysAt_239 rfl rfl ?_
      refine ab_getR (ci := 11) (k := 19) (j := mx_piece) d_M_waysAt_240 v_1387 rfl (by decide) (by decide) rfl r_mx_19 ?_
      refine ab_aload_n (i := 0) d_M_waysAt_243 rfl rfl ?_
      refine ab_getR (ci := 11) (k := 4) (j := mx_now) d_M_waysAt_244 v_1372 rfl (by decide) (by decide) rfl r_mx_4 ?_
      refine ab_iconst (v := 3) d_M_waysAt_247 rfl ?_
      refine ab_iload (i := 7) d_M_waysAt_248 rfl ?_
      refine ab_iadd d_M_waysAt_250 ?_
      have g7 := h.1; have h := h.2
      refine ab_iald d_M_waysAt_251 rfl rfl g7 ?_
      have g8 := h.1; have h := h.2
      refine ab_iald d_M_waysAt_252 rfl rfl g8 ?_
      refine ab_istore (i := 8) d_M_waysAt_253 (by decide) (Or.inr rfl) ?_
      refine ab_aload_n (i := 0) d_M_waysAt_255 rfl rfl ?_
      refine ab_getR (ci := 11) (k := 19) (j := mx_piece) d_M_waysAt_256 v_1387 rfl (by decide) (by decide) rfl r_mx_19 ?_
      refine ab_aload_n (i := 0) d_M_waysAt_259 rfl rfl ?_
      refine ab_getR (ci := 11) (k := 4) (j := mx_now) d_M_waysAt_260 v_1372 rfl (by decide) (by decide) rfl r_mx_4 ?_
      refine ab_bipush (v := 27) d_M_waysAt_263 rfl ?_
      refine ab_iload (i := 7) d_M_waysAt_265 rfl ?_
      refine ab_iadd d_M_waysAt_267 ?_
      have g9 := h.1; have h := h.2
      refine ab_iald d_M_waysAt_268 rfl rfl g9 ?_
      have g10 := h.1; have h := h.2
      refine ab_iald d_M_waysAt_269 rfl rfl g10 ?_
      refine ab_istore (i := 9) d_M_waysAt_270 (by decide) (Or.inr rfl) ?_
      refine ab_iload (i := 8) d_M_waysAt_272 rfl ?_
      refine ab_iload (i := 9) d_M_waysAt_274 rfl ?_
      refine ab_icmp_ne (tgt := 282) d_M_waysAt_276 (by decide) (fun c11 => ?_) (fun c11 => ?_)
      · have h := h.1 c11
        refine ab_aload_n (i := 0) d_M_waysAt_282 rfl rfl ?_
        refine ab_aload_n (i := 0) d_M_waysAt_283 rfl rfl ?_
        refine ab_getR (ci := 11) (k := 35) (j := mx_column) d_M_waysAt_284 v_1403 rfl (by decide) (by decide) rfl r_mx_35 ?_
        refine ab_iload (i := 8) d_M_waysAt_287 rfl ?_
        have g12 := h.1; have h := h.2
        refine ab_iald d_M_waysAt_289 rfl rfl g12 ?_
        refine ab_aload_n (i := 0) d_M_waysAt_290 rfl rfl ?_
        refine ab_getR (ci := 11) (k := 35) (j := mx_column) d_M_waysAt_291 v_1403 rfl (by decide) (by decide) rfl r_mx_35 ?_
        refine ab_iload (i := 8) d_M_waysAt_294 rfl ?_
        refine ab_iald d_M_waysAt_296 rfl rfl g12 ?_
        refine ab_lconst (v := 1) d_M_waysAt_297 rfl ?_
        obtain ⟨L14, hC, h⟩ := h
        refine ab_callV (me2 := mt_M_lays) (b := mx) (as := [.int (I mx_column (I mx_piece (I mx_now (3 + v7).toNatClampNeg).toNatClampNeg).toNatClampNeg), .int (I mx_column (I mx_piece (I mx_now (3 + v7).toNatClampNeg).toNatClampNeg).toNatClampNeg), .long 1]) (st := []) (rv := none) (M2 := (I, L14, ab_RR, n, nc, ns)) d_M_waysAt_298 ce_M_lays v_1831 v_1833 v_117 (by decide) rfl (Nat.le_of_ble_eq_true rfl) hC (Nat.le_refl _) (Nat.le_refl _) hc hs (fun j h9 => by cases h9) (fun _ _ => rfl) ?_
        show ab_E w (d + 1) mt_M_waysAt 301 [.ref mx, .int v1, .int v2, .int v3, .int v4, .int v5, .int v6, .int v7, .int (I mx_piece (I mx_now (3 + v7).toNatClampNeg).toNatClampNeg), .int (I mx_piece (I mx_now (27 + v7).toNatClampNeg).toNatClampNeg)] [] (I, L14, ab_RR, n, nc, ns) res
        refine ab_aload_n (i := 0) d_M_waysAt_301 rfl rfl ?_
        refine ab_aload_n (i := 0) d_M_waysAt_302 rfl rfl ?_
        refine ab_getR (ci := 11) (k := 35) (j := mx_column) d_M_waysAt_303 v_1403 rfl (by decide) (by decide) rfl r_mx_35 ?_
        refine ab_iload (i := 9) d_M_waysAt_306 rfl ?_
        have g15 := h.1; have h := h.2
        refine ab_iald d_M_waysAt_308 rfl rfl g15 ?_
        refine ab_aload_n (i := 0) d_M_waysAt_309 rfl rfl ?_
        refine ab_getR (ci := 11) (k := 35) (j := mx_column) d_M_waysAt_310 v_1403 rfl (by decide) (by decide) rfl r_mx_35 ?_
        refine ab_iload (i := 9) d_M_waysAt_313 rfl ?_
        refine ab_iald d_M_waysAt_315 rfl rfl g15 ?_
        refine ab_lconst (v := 1) d_M_waysAt_316 rfl ?_
        obtain ⟨L17, hC, h⟩ := h
        refine ab_callV (me2 := mt_M_lays) (b := mx) (as := [.int (I mx_column (I mx_piece (I mx_now (27 + v7).toNatClampNeg).toNatClampNeg).toNatClampNeg), .int (I mx_column (I mx_piece (I mx_now (27 + v7).toNatClampNeg).toNatClampNeg).toNatClampNeg), .long 1]) (st := []) (rv := none) (M2 := (I, L17, ab_RR, n, nc, ns)) d_M_waysAt_317 ce_M_lays v_1831 v_1833 v_117 (by decide) rfl (Nat.le_of_ble_eq_true rfl) hC (Nat.le_refl _) (Nat.le_refl _) hc hs (fun j h9 => by cases h9) (fun _ _ => rfl) ?_
        show ab_E w (d + 1) mt_M_waysAt 320 [.ref mx, .int v1, .int v2, .int v3, .int v4, .int v5, .int v6, .int v7, .int (I mx_piece (I mx_now (3 + v7).toNatClampNeg).toNatClampNeg), .int (I mx_piece (I mx_now (27 + v7).toNatClampNeg).toNatClampNeg)] [] (I, L17, ab_RR, n, nc, ns) res
        refine ab_aload_n (i := 0) d_M_waysAt_320 rfl rfl ?_
        refine ab_aload_n (i := 0) d_M_waysAt_321 rfl rfl ?_
        refine ab_getR (ci := 11) (k := 35) (j := mx_column) d_M_waysAt_322 v_1403 rfl (by decide) (by decide) rfl r_mx_35 ?_
        refine ab_iload (i := 8) d_M_waysAt_325 rfl ?_
        refine ab_iald d_M_waysAt_327 rfl rfl g12 ?_
        refine ab_aload_n (i := 0) d_M_waysAt_328 rfl rfl ?_
        refine ab_getR (ci := 11) (k := 35) (j := mx_column) d_M_waysAt_329 v_1403 rfl (by decide) (by decide) rfl r_mx_35 ?_
        refine ab_iload (i := 9) d_M_waysAt_332 rfl ?_
        refine ab_iald d_M_waysAt_334 rfl rfl g15 ?_
        refine ab_ldc2 (v := (-1)) d_M_waysAt_335 v_1835 ?_
        obtain ⟨L19, hC, h⟩ := h
        refine ab_callV (me2 := mt_M_lays) (b := mx) (as := [.int (I mx_column (I mx_piece (I mx_now (3 + v7).toNatClampNeg).toNatClampNeg).toNatClampNeg), .int (I mx_column (I mx_piece (I mx_now (27 + v7).toNatClampNeg).toNatClampNeg).toNatClampNeg), .long (-1)]) (st := []) (rv := none) (M2 := (I, L19, ab_RR, n, nc, ns)) d_M_waysAt_338 ce_M_lays v_1831 v_1833 v_117 (by decide) rfl (Nat.le_of_ble_eq_true rfl) hC (Nat.le_refl _) (Nat.le_refl _) hc hs (fun j h9 => by cases h9) (fun _ _ => rfl) ?_
        show ab_E w (d + 1) mt_M_waysAt 341 [.ref mx, .int v1, .int v2, .int v3, .int v4, .int v5, .int v6, .int v7, .int (I mx_piece (I mx_now (3 + v7).toNatClampNeg).toNatClampNeg), .int (I mx_piece (I mx_now (27 + v7).toNatClampNeg).toNatClampNeg)] [] (I, L19, ab_RR, n, nc, ns) res
        refine ab_aload_n (i := 0) d_M_waysAt_341 rfl rfl ?_
        refine ab_aload_n (i := 0) d_M_waysAt_342 rfl rfl ?_
        refine ab_getR (ci := 11) (k := 35) (j := mx_column) d_M_waysAt_343 v_1403 rfl (by decide) (by decide) rfl r_mx_35 ?_
        refine ab_iload (i := 9) d_M_waysAt_346 rfl ?_
        refine ab_iald d_M_waysAt_348 rfl rfl g15 ?_
        refine ab_aload_n (i := 0) d_M_waysAt_349 rfl rfl ?_
        refine ab_getR (ci := 11) (k := 35) (j := mx_column) d_M_waysAt_350 v_1403 rfl (by decide) (by decide) rfl r_mx_35 ?_
        refine ab_iload (i := 8) d_M_waysAt_353 rfl ?_
        refine ab_iald d_M_waysAt_355 rfl rfl g12 ?_
        refine ab_ldc2 (v := (-1)) d_M_waysAt_356 v_1835 ?_
        obtain ⟨L21, hC, h⟩ := h
        refine ab_callV (me2 := mt_M_lays) (b := mx) (as := [.int (I mx_column (I mx_piece (I mx_now (27 + v7).toNatClampNeg).toNatClampNeg).toNatClampNeg), .int (I mx_column (I mx_piece (I mx_now (3 + v7).toNatClampNeg).toNatClampNeg).toNatClampNeg), .long (-1)]) (st := []) (rv := none) (M2 := (I, L21, ab_RR, n, nc, ns)) d_M_waysAt_359 ce_M_lays v_1831 v_1833 v_117 (by decide) rfl (Nat.le_of_ble_eq_true rfl) hC (Nat.le_refl _) (Nat.le_refl _) hc hs (fun j h9 => by cases h9) (fun _ _ => rfl) ?_
        show ab_E w (d + 1) mt_M_waysAt 362 [.ref mx, .int v1, .int v2, .int v3, .int v4, .int v5, .int v6, .int v7, .int (I mx_piece (I mx_now (3 + v7).toNatClampNeg).toNatClampNeg), .int (I mx_piece (I mx_now (27 + v7).toNatClampNeg).toNatClampNeg)] [] (I, L21, ab_RR, n, nc, ns) res
        refine ab_drop 8 ?_
        refine ab_drop 9 ?_
        exact h
      · have h := h.2 c11
        refine ab_goto (tgt := 362) d_M_waysAt_279 (by decide) ?_
        refine ab_drop 8 ?_
        refine ab_drop 9 ?_
        exact h
    · have h := h.2 c6
      refine ab_goto (tgt := 362) d_M_waysAt_236 (by decide) ?_
      exact h
theorem q_M_waysAt_362 {w : ab_Wd} {d n nc ns : Nat} {I : Nat → Nat → Int32} {L : Nat → Nat → Int64} {res : ab_Re} (v1 : Int32) (v2 : Int32) (v3 : Int32) (v4 : Int32) (v5 : Int32) (v6 : Int32) (v7 : Int32) (hc : nc ≤ res.2.2.2.2.2.1) (hs : ns ≤ res.2.2.2.2.2.2)
    (h : ab_E w (d + 1) mt_M_waysAt 218 [.ref mx, .int v1, .int v2, .int v3, .int v4, .int v5, .int v6, .int (v7 + 1), .null, .null] [] (I, L, ab_RR, n, nc, ns) res) : ab_E w (d + 1) mt_M_waysAt 362 [.ref mx, .int v1, .int v2, .int v3, .int v4, .int v5, .int v6, .int v7, .null, .null] [] (I, L, ab_RR, n, nc, ns) res := by
  refine ab_iinc (i := 7) (v := (v7 + 1)) d_M_waysAt_362 rfl rfl (by decide) (Or.inr rfl) ?_
  refine ab_goto (tgt := 218) d_M_waysAt_365 (by decide) ?_
  exact h
