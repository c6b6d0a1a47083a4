theorem d_M_determinant_0 : decode (ab_bc mt_M_determinant) 0 = .ok (.lconst 1, 1) := by decide +kernel
theorem d_M_determinant_1 : decode (ab_bc mt_M_determinant) 1 = .ok (.lstore_n 2, 1) := by decide +kernel
theorem d_M_determinant_2 : decode (ab_bc mt_M_determinant) 2 = .ok (.lconst 1, 1) := by decide +kernel
theorem d_M_determinant_3 : decode (ab_bc mt_M_determinant) 3 = .ok (.lstore 4, 2) := by decide +kernel
theorem d_M_determinant_5 : decode (ab_bc mt_M_determinant) 5 = .ok (.iconst 0, 1) := by decide +kernel
theorem d_M_determinant_6 : decode (ab_bc mt_M_determinant) 6 = .ok (.istore 6, 2) := by decide +kernel
theorem d_M_determinant_8 : decode (ab_bc mt_M_determinant) 8 = .ok (.iload 6, 2) := by decide +kernel
theorem d_M_determinant_10 : decode (ab_bc mt_M_determinant) 10 = .ok (.iload_n 1, 1) := by decide +kernel
theorem d_M_determinant_11 : decode (ab_bc mt_M_determinant) 11 = .ok (.if_icmp .ge 266, 3) := by decide +kernel
theorem d_M_determinant_14 : decode (ab_bc mt_M_determinant) 14 = .ok (.iload 6, 2) := by decide +kernel
theorem d_M_determinant_16 : decode (ab_bc mt_M_determinant) 16 = .ok (.istore 7, 2) := by decide +kernel
theorem d_M_determinant_18 : decode (ab_bc mt_M_determinant) 18 = .ok (.iload 7, 2) := by decide +kernel
theorem d_M_determinant_20 : decode (ab_bc mt_M_determinant) 20 = .ok (.iload_n 1, 1) := by decide +kernel
theorem d_M_determinant_21 : decode (ab_bc mt_M_determinant) 21 = .ok (.if_icmp .ge 27, 3) := by decide +kernel
theorem d_M_determinant_24 : decode (ab_bc mt_M_determinant) 24 = .ok (.aload_n 0, 1) := by decide +kernel
theorem d_M_determinant_25 : decode (ab_bc mt_M_determinant) 25 = .ok (.getfield 74, 3) := by decide +kernel
theorem d_M_determinant_28 : decode (ab_bc mt_M_determinant) 28 = .ok (.bipush 10, 2) := by decide +kernel
theorem d_M_determinant_30 : decode (ab_bc mt_M_determinant) 30 = .ok (.iload 7, 2) := by decide +kernel
theorem d_M_determinant_32 : decode (ab_bc mt_M_determinant) 32 = .ok (.imul, 1) := by decide +kernel
theorem d_M_determinant_33 : decode (ab_bc mt_M_determinant) 33 = .ok (.iload 6, 2) := by decide +kernel
theorem d_M_determinant_35 : decode (ab_bc mt_M_determinant) 35 = .ok (.iadd, 1) := by decide +kernel
theorem d_M_determinant_36 : decode (ab_bc mt_M_determinant) 36 = .ok (.laload, 1) := by decide +kernel
theorem d_M_determinant_37 : decode (ab_bc mt_M_determinant) 37 = .ok (.lconst 0, 1) := by decide +kernel
theorem d_M_determinant_38 : decode (ab_bc mt_M_determinant) 38 = .ok (.lcmp, 1) := by decide +kernel
theorem d_M_determinant_39 : decode (ab_bc mt_M_determinant) 39 = .ok (.ifCond .ne 9, 3) := by decide +kernel
theorem d_M_determinant_42 : decode (ab_bc mt_M_determinant) 42 = .ok (.iinc 7 1, 3) := by decide +kernel
theorem d_M_determinant_45 : decode (ab_bc mt_M_determinant) 45 = .ok (.goto (-27), 3) := by decide +kernel
theorem d_M_determinant_48 : decode (ab_bc mt_M_determinant) 48 = .ok (.iload 7, 2) := by decide +kernel
theorem d_M_determinant_50 : decode (ab_bc mt_M_determinant) 50 = .ok (.iload_n 1, 1) := by decide +kernel
theorem d_M_determinant_51 : decode (ab_bc mt_M_determinant) 51 = .ok (.if_icmp .ne 5, 3) := by decide +kernel
theorem d_M_determinant_54 : decode (ab_bc mt_M_determinant) 54 = .ok (.lconst 0, 1) := by decide +kernel
theorem d_M_determinant_55 : decode (ab_bc mt_M_determinant) 55 = .ok (.lreturn, 1) := by decide +kernel
theorem d_M_determinant_56 : decode (ab_bc mt_M_determinant) 56 = .ok (.iconst 0, 1) := by decide +kernel
theorem d_M_determinant_57 : decode (ab_bc mt_M_determinant) 57 = .ok (.istore 8, 2) := by decide +kernel
theorem d_M_determinant_59 : decode (ab_bc mt_M_determinant) 59 = .ok (.iload 8, 2) := by decide +kernel
theorem d_M_determinant_61 : decode (ab_bc mt_M_determinant) 61 = .ok (.iload_n 1, 1) := by decide +kernel
theorem d_M_determinant_62 : decode (ab_bc mt_M_determinant) 62 = .ok (.if_icmp .ge 72, 3) := by decide +kernel
theorem d_M_determinant_65 : decode (ab_bc mt_M_determinant) 65 = .ok (.iload 7, 2) := by decide +kernel
theorem d_M_determinant_67 : decode (ab_bc mt_M_determinant) 67 = .ok (.iload 6, 2) := by decide +kernel
theorem d_M_determinant_69 : decode (ab_bc mt_M_determinant) 69 = .ok (.if_icmp .eq 65, 3) := by decide +kernel
theorem d_M_determinant_72 : decode (ab_bc mt_M_determinant) 72 = .ok (.aload_n 0, 1) := by decide +kernel
theorem d_M_determinant_73 : decode (ab_bc mt_M_determinant) 73 = .ok (.getfield 74, 3) := by decide +kernel
theorem d_M_determinant_76 : decode (ab_bc mt_M_determinant) 76 = .ok (.bipush 10, 2) := by decide +kernel
theorem d_M_determinant_78 : decode (ab_bc mt_M_determinant) 78 = .ok (.iload 6, 2) := by decide +kernel
theorem d_M_determinant_80 : decode (ab_bc mt_M_determinant) 80 = .ok (.imul, 1) := by decide +kernel
theorem d_M_determinant_81 : decode (ab_bc mt_M_determinant) 81 = .ok (.iload 8, 2) := by decide +kernel
theorem d_M_determinant_83 : decode (ab_bc mt_M_determinant) 83 = .ok (.iadd, 1) := by decide +kernel
theorem d_M_determinant_84 : decode (ab_bc mt_M_determinant) 84 = .ok (.laload, 1) := by decide +kernel
theorem d_M_determinant_85 : decode (ab_bc mt_M_determinant) 85 = .ok (.lstore 9, 2) := by decide +kernel
theorem d_M_determinant_87 : decode (ab_bc mt_M_determinant) 87 = .ok (.aload_n 0, 1) := by decide +kernel
theorem d_M_determinant_88 : decode (ab_bc mt_M_determinant) 88 = .ok (.getfield 74, 3) := by decide +kernel
theorem d_M_determinant_91 : decode (ab_bc mt_M_determinant) 91 = .ok (.bipush 10, 2) := by decide +kernel
theorem d_M_determinant_93 : decode (ab_bc mt_M_determinant) 93 = .ok (.iload 6, 2) := by decide +kernel
theorem d_M_determinant_95 : decode (ab_bc mt_M_determinant) 95 = .ok (.imul, 1) := by decide +kernel
theorem d_M_determinant_96 : decode (ab_bc mt_M_determinant) 96 = .ok (.iload 8, 2) := by decide +kernel
theorem d_M_determinant_98 : decode (ab_bc mt_M_determinant) 98 = .ok (.iadd, 1) := by decide +kernel
theorem d_M_determinant_99 : decode (ab_bc mt_M_determinant) 99 = .ok (.aload_n 0, 1) := by decide +kernel
theorem d_M_determinant_100 : decode (ab_bc mt_M_determinant) 100 = .ok (.getfield 74, 3) := by decide +kernel
theorem d_M_determinant_103 : decode (ab_bc mt_M_determinant) 103 = .ok (.bipush 10, 2) := by decide +kernel
theorem d_M_determinant_105 : decode (ab_bc mt_M_determinant) 105 = .ok (.iload 7, 2) := by decide +kernel
theorem d_M_determinant_107 : decode (ab_bc mt_M_determinant) 107 = .ok (.imul, 1) := by decide +kernel
theorem d_M_determinant_108 : decode (ab_bc mt_M_determinant) 108 = .ok (.iload 8, 2) := by decide +kernel
theorem d_M_determinant_110 : decode (ab_bc mt_M_determinant) 110 = .ok (.iadd, 1) := by decide +kernel
theorem d_M_determinant_111 : decode (ab_bc mt_M_determinant) 111 = .ok (.laload, 1) := by decide +kernel
theorem d_M_determinant_112 : decode (ab_bc mt_M_determinant) 112 = .ok (.lastore, 1) := by decide +kernel
theorem d_M_determinant_113 : decode (ab_bc mt_M_determinant) 113 = .ok (.aload_n 0, 1) := by decide +kernel
theorem d_M_determinant_114 : decode (ab_bc mt_M_determinant) 114 = .ok (.getfield 74, 3) := by decide +kernel
theorem d_M_determinant_117 : decode (ab_bc mt_M_determinant) 117 = .ok (.bipush 10, 2) := by decide +kernel
theorem d_M_determinant_119 : decode (ab_bc mt_M_determinant) 119 = .ok (.iload 7, 2) := by decide +kernel
theorem d_M_determinant_121 : decode (ab_bc mt_M_determinant) 121 = .ok (.imul, 1) := by decide +kernel
theorem d_M_determinant_122 : decode (ab_bc mt_M_determinant) 122 = .ok (.iload 8, 2) := by decide +kernel
theorem d_M_determinant_124 : decode (ab_bc mt_M_determinant) 124 = .ok (.iadd, 1) := by decide +kernel
theorem d_M_determinant_125 : decode (ab_bc mt_M_determinant) 125 = .ok (.lload 9, 2) := by decide +kernel
theorem d_M_determinant_127 : decode (ab_bc mt_M_determinant) 127 = .ok (.lastore, 1) := by decide +kernel
theorem d_M_determinant_128 : decode (ab_bc mt_M_determinant) 128 = .ok (.iinc 8 1, 3) := by decide +kernel
theorem d_M_determinant_131 : decode (ab_bc mt_M_determinant) 131 = .ok (.goto (-72), 3) := by decide +kernel
theorem d_M_determinant_134 : decode (ab_bc mt_M_determinant) 134 = .ok (.iload 7, 2) := by decide +kernel
theorem d_M_determinant_136 : decode (ab_bc mt_M_determinant) 136 = .ok (.iload 6, 2) := by decide +kernel
theorem d_M_determinant_138 : decode (ab_bc mt_M_determinant) 138 = .ok (.if_icmp .eq 9, 3) := by decide +kernel
theorem d_M_determinant_141 : decode (ab_bc mt_M_determinant) 141 = .ok (.lload 4, 2) := by decide +kernel
theorem d_M_determinant_143 : decode (ab_bc mt_M_determinant) 143 = .ok (.lneg, 1) := by decide +kernel
theorem d_M_determinant_144 : decode (ab_bc mt_M_determinant) 144 = .ok (.goto 5, 3) := by decide +kernel
theorem d_M_determinant_147 : decode (ab_bc mt_M_determinant) 147 = .ok (.lload 4, 2) := by decide +kernel
theorem d_M_determinant_149 : decode (ab_bc mt_M_determinant) 149 = .ok (.lstore 4, 2) := by decide +kernel
theorem d_M_determinant_151 : decode (ab_bc mt_M_determinant) 151 = .ok (.iload 6, 2) := by decide +kernel
theorem d_M_determinant_153 : decode (ab_bc mt_M_determinant) 153 = .ok (.iconst 1, 1) := by decide +kernel
theorem d_M_determinant_154 : decode (ab_bc mt_M_determinant) 154 = .ok (.iadd, 1) := by decide +kernel
theorem d_M_determinant_155 : decode (ab_bc mt_M_determinant) 155 = .ok (.istore 8, 2) := by decide +kernel
theorem d_M_determinant_157 : decode (ab_bc mt_M_determinant) 157 = .ok (.iload 8, 2) := by decide +kernel
theorem d_M_determinant_159 : decode (ab_bc mt_M_determinant) 159 = .ok (.iload_n 1, 1) := by decide +kernel
theorem d_M_determinant_160 : decode (ab_bc mt_M_determinant) 160 = .ok (.if_icmp .ge 97, 3) := by decide +kernel
theorem d_M_determinant_163 : decode (ab_bc mt_M_determinant) 163 = .ok (.iload 6, 2) := by decide +kernel
theorem d_M_determinant_165 : decode (ab_bc mt_M_determinant) 165 = .ok (.iconst 1, 1) := by decide +kernel
theorem d_M_determinant_166 : decode (ab_bc mt_M_determinant) 166 = .ok (.iadd, 1) := by decide +kernel
theorem d_M_determinant_167 : decode (ab_bc mt_M_determinant) 167 = .ok (.istore 9, 2) := by decide +kernel
theorem d_M_determinant_169 : decode (ab_bc mt_M_determinant) 169 = .ok (.iload 9, 2) := by decide +kernel
theorem d_M_determinant_171 : decode (ab_bc mt_M_determinant) 171 = .ok (.iload_n 1, 1) := by decide +kernel
theorem d_M_determinant_172 : decode (ab_bc mt_M_determinant) 172 = .ok (.if_icmp .ge 79, 3) := by decide +kernel
theorem d_M_determinant_175 : decode (ab_bc mt_M_determinant) 175 = .ok (.aload_n 0, 1) := by decide +kernel
theorem d_M_determinant_176 : decode (ab_bc mt_M_determinant) 176 = .ok (.getfield 74, 3) := by decide +kernel
theorem d_M_determinant_179 : decode (ab_bc mt_M_determinant) 179 = .ok (.bipush 10, 2) := by decide +kernel
theorem d_M_determinant_181 : decode (ab_bc mt_M_determinant) 181 = .ok (.iload 8, 2) := by decide +kernel
theorem d_M_determinant_183 : decode (ab_bc mt_M_determinant) 183 = .ok (.imul, 1) := by decide +kernel
theorem d_M_determinant_184 : decode (ab_bc mt_M_determinant) 184 = .ok (.iload 9, 2) := by decide +kernel
theorem d_M_determinant_186 : decode (ab_bc mt_M_determinant) 186 = .ok (.iadd, 1) := by decide +kernel
theorem d_M_determinant_187 : decode (ab_bc mt_M_determinant) 187 = .ok (.aload_n 0, 1) := by decide +kernel
theorem d_M_determinant_188 : decode (ab_bc mt_M_determinant) 188 = .ok (.getfield 74, 3) := by decide +kernel
theorem d_M_determinant_191 : decode (ab_bc mt_M_determinant) 191 = .ok (.bipush 10, 2) := by decide +kernel
theorem d_M_determinant_193 : decode (ab_bc mt_M_determinant) 193 = .ok (.iload 6, 2) := by decide +kernel
theorem d_M_determinant_195 : decode (ab_bc mt_M_determinant) 195 = .ok (.imul, 1) := by decide +kernel
theorem d_M_determinant_196 : decode (ab_bc mt_M_determinant) 196 = .ok (.iload 6, 2) := by decide +kernel
theorem d_M_determinant_198 : decode (ab_bc mt_M_determinant) 198 = .ok (.iadd, 1) := by decide +kernel
theorem d_M_determinant_199 : decode (ab_bc mt_M_determinant) 199 = .ok (.laload, 1) := by decide +kernel
theorem d_M_determinant_200 : decode (ab_bc mt_M_determinant) 200 = .ok (.aload_n 0, 1) := by decide +kernel
theorem d_M_determinant_201 : decode (ab_bc mt_M_determinant) 201 = .ok (.getfield 74, 3) := by decide +kernel
theorem d_M_determinant_204 : decode (ab_bc mt_M_determinant) 204 = .ok (.bipush 10, 2) := by decide +kernel
theorem d_M_determinant_206 : decode (ab_bc mt_M_determinant) 206 = .ok (.iload 8, 2) := by decide +kernel
theorem d_M_determinant_208 : decode (ab_bc mt_M_determinant) 208 = .ok (.imul, 1) := by decide +kernel
theorem d_M_determinant_209 : decode (ab_bc mt_M_determinant) 209 = .ok (.iload 9, 2) := by decide +kernel
theorem d_M_determinant_211 : decode (ab_bc mt_M_determinant) 211 = .ok (.iadd, 1) := by decide +kernel
theorem d_M_determinant_212 : decode (ab_bc mt_M_determinant) 212 = .ok (.laload, 1) := by decide +kernel
theorem d_M_determinant_213 : decode (ab_bc mt_M_determinant) 213 = .ok (.lmul, 1) := by decide +kernel
theorem d_M_determinant_214 : decode (ab_bc mt_M_determinant) 214 = .ok (.aload_n 0, 1) := by decide +kernel
theorem d_M_determinant_215 : decode (ab_bc mt_M_determinant) 215 = .ok (.getfield 74, 3) := by decide +kernel
theorem d_M_determinant_218 : decode (ab_bc mt_M_determinant) 218 = .ok (.bipush 10, 2) := by decide +kernel
theorem d_M_determinant_220 : decode (ab_bc mt_M_determinant) 220 = .ok (.iload 8, 2) := by decide +kernel
theorem d_M_determinant_222 : decode (ab_bc mt_M_determinant) 222 = .ok (.imul, 1) := by decide +kernel
theorem d_M_determinant_223 : decode (ab_bc mt_M_determinant) 223 = .ok (.iload 6, 2) := by decide +kernel
theorem d_M_determinant_225 : decode (ab_bc mt_M_determinant) 225 = .ok (.iadd, 1) := by decide +kernel
theorem d_M_determinant_226 : decode (ab_bc mt_M_determinant) 226 = .ok (.laload, 1) := by decide +kernel
theorem d_M_determinant_227 : decode (ab_bc mt_M_determinant) 227 = .ok (.aload_n 0, 1) := by decide +kernel
theorem d_M_determinant_228 : decode (ab_bc mt_M_determinant) 228 = .ok (.getfield 74, 3) := by decide +kernel
theorem d_M_determinant_231 : decode (ab_bc mt_M_determinant) 231 = .ok (.bipush 10, 2) := by decide +kernel
theorem d_M_determinant_233 : decode (ab_bc mt_M_determinant) 233 = .ok (.iload 6, 2) := by decide +kernel
theorem d_M_determinant_235 : decode (ab_bc mt_M_determinant) 235 = .ok (.imul, 1) := by decide +kernel
theorem d_M_determinant_236 : decode (ab_bc mt_M_determinant) 236 = .ok (.iload 9, 2) := by decide +kernel
theorem d_M_determinant_238 : decode (ab_bc mt_M_determinant) 238 = .ok (.iadd, 1) := by decide +kernel
theorem d_M_determinant_239 : decode (ab_bc mt_M_determinant) 239 = .ok (.laload, 1) := by decide +kernel
theorem d_M_determinant_240 : decode (ab_bc mt_M_determinant) 240 = .ok (.lmul, 1) := by decide +kernel
theorem d_M_determinant_241 : decode (ab_bc mt_M_determinant) 241 = .ok (.lsub, 1) := by decide +kernel
theorem d_M_determinant_242 : decode (ab_bc mt_M_determinant) 242 = .ok (.lload_n 2, 1) := by decide +kernel
theorem d_M_determinant_243 : decode (ab_bc mt_M_determinant) 243 = .ok (.ldiv, 1) := by decide +kernel
theorem d_M_determinant_244 : decode (ab_bc mt_M_determinant) 244 = .ok (.lastore, 1) := by decide +kernel
theorem d_M_determinant_245 : decode (ab_bc mt_M_determinant) 245 = .ok (.iinc 9 1, 3) := by decide +kernel
theorem d_M_determinant_248 : decode (ab_bc mt_M_determinant) 248 = .ok (.goto (-79), 3) := by decide +kernel
theorem d_M_determinant_251 : decode (ab_bc mt_M_determinant) 251 = .ok (.iinc 8 1, 3) := by decide +kernel
theorem d_M_determinant_254 : decode (ab_bc mt_M_determinant) 254 = .ok (.goto (-97), 3) := by decide +kernel
theorem d_M_determinant_257 : decode (ab_bc mt_M_determinant) 257 = .ok (.aload_n 0, 1) := by decide +kernel
theorem d_M_determinant_258 : decode (ab_bc mt_M_determinant) 258 = .ok (.getfield 74, 3) := by decide +kernel
theorem d_M_determinant_261 : decode (ab_bc mt_M_determinant) 261 = .ok (.bipush 10, 2) := by decide +kernel
theorem d_M_determinant_263 : decode (ab_bc mt_M_determinant) 263 = .ok (.iload 6, 2) := by decide +kernel
theorem d_M_determinant_265 : decode (ab_bc mt_M_determinant) 265 = .ok (.imul, 1) := by decide +kernel
theorem d_M_determinant_266 : decode (ab_bc mt_M_determinant) 266 = .ok (.iload 6, 2) := by decide +kernel
theorem d_M_determinant_268 : decode (ab_bc mt_M_determinant) 268 = .ok (.iadd, 1) := by decide +kernel
theorem d_M_determinant_269 : decode (ab_bc mt_M_determinant) 269 = .ok (.laload, 1) := by decide +kernel
theorem d_M_determinant_270 : decode (ab_bc mt_M_determinant) 270 = .ok (.lstore_n 2, 1) := by decide +kernel
theorem d_M_determinant_271 : decode (ab_bc mt_M_determinant) 271 = .ok (.iinc 6 1, 3) := by decide +kernel
theorem d_M_determinant_274 : decode (ab_bc mt_M_determinant) 274 = .ok (.goto (-266), 3) := by decide +kernel
theorem d_M_determinant_277 : decode (ab_bc mt_M_determinant) 277 = .ok (.lload 4, 2) := by decide +kernel
theorem d_M_determinant_279 : decode (ab_bc mt_M_determinant) 279 = .ok (.lload_n 2, 1) := by decide +kernel
theorem d_M_determinant_280 : decode (ab_bc mt_M_determinant) 280 = .ok (.lmul, 1) := by decide +kernel
theorem d_M_determinant_281 : decode (ab_bc mt_M_determinant) 281 = .ok (.lreturn, 1) := by decide +kernel
-- CableKeeperModel.determinant(I)J over mx
theorem q_M_determinant_0 {w : ab_Wd} {d n nc ns : Nat} {I : Nat → Nat → Int32} {L : Nat → Nat → Int64} {res : ab_Re} (v1 : Int32) (hc : nc ≤ res.2.2.2.2.2.1) (hs : ns ≤ res.2.2.2.2.2.2)
    (h : ab_E w d mt_M_determinant 8 [.ref mx, .int v1, .long 1, .null, .long 1, .null, .int 0, .null, .null, .null, .null] [] (I, L, ab_RR, n, nc, ns) res) : ab_E w d mt_M_determinant 0 [.ref mx, .int v1, .null, .null, .null, .null, .null, .null, .null, .null, .null] [] (I, L, ab_RR, n, nc, ns) res := by
  refine ab_lconst (v := 1) d_M_determinant_0 rfl ?_
  refine ab_lstore_n (i := 2) d_M_determinant_1 rfl (by decide) (Or.inr rfl) ?_
  refine ab_lconst (v := 1) d_M_determinant_2 rfl ?_
  refine ab_lstore (i := 4) d_M_determinant_3 (by decide) (Or.inr rfl) ?_
  refine ab_iconst (v := 0) d_M_determinant_5 rfl ?_
  refine ab_istore (i := 6) d_M_determinant_6 (by decide) (Or.inr rfl) ?_
  exact h
theorem q_M_determinant_8 {w : ab_Wd} {d n nc ns : Nat} {I : Nat → Nat → Int32} {L : Nat → Nat → Int64} {res : ab_Re} (v1 : Int32) (v2 : Int64) (v4 : Int64) (v6 : Int32) (hc : nc ≤ res.2.2.2.2.2.1) (hs : ns ≤ res.2.2.2.2.2.2)
    (h : ((v1 ≤ v6 → (res = (.inl (some (.long (v4 * v2))), (I, L, ab_RR, n, nc, ns)))) ∧ (¬ v1 ≤ v6 → (ab_E w d mt_M_determinant 18 [.ref mx, .int v1, .long v2, .null, .long v4, .null, .int v6, .int v6, .null, .null, .null] [] (I, L, ab_RR, n, nc, ns) res)))) : ab_E w d mt_M_determinant 8 [.ref mx, .int v1, .long v2, .null, .long v4, .null, .int v6, .null, .null, .null, .null] [] (I, L, ab_RR, n, nc, ns) res := by
  refine ab_iload (i := 6) d_M_determinant_8 rfl ?_
  refine ab_iload_n (i := 1) d_M_determinant_10 rfl rfl ?_
  refine ab_icmp_ge (tgt := 277) d_M_determinant_11 (by decide) (fun c1 => ?_) (fun c1 => ?_)
  · have h := h.1 c1
    refine ab_lload (i := 4) d_M_determinant_277 rfl ?_
    refine ab_lload_n (i := 2) d_M_determinant_279 rfl rfl ?_
    refine ab_lmul d_M_determinant_280 ?_
    exact ab_lret d_M_determinant_281 rfl h
  · have h := h.2 c1
    refine ab_iload (i := 6) d_M_determinant_14 rfl ?_
    refine ab_istore (i := 7) d_M_determinant_16 (by decide) (Or.inr rfl) ?_
    exact h
theorem q_M_determinant_18 {w : ab_Wd} {d n nc ns : Nat} {I : Nat → Nat → Int32} {L : Nat → Nat → Int64} {res : ab_Re} (v1 : Int32) (v2 : Int64) (v4 : Int64) (v6 : Int32) (v7 : Int32) (hc : nc ≤ res.2.2.2.2.2.1) (hs : ns ≤ res.2.2.2.2.2.2)
    (h : ((v1 ≤ v7 → (ab_E w d mt_M_determinant 48 [.ref mx, .int v1, .long v2, .null, .long v4, .null, .int v6, .int v7, .null, .null, .null] [] (I, L, ab_RR, n, nc, ns) res)) ∧ (¬ v1 ≤ v7 → ((vp_in ((10 * v7) + v6) 100) ∧ ((¬ (lg_cmp (L mx_laplace ((10 * v7) + v6).toNatClampNeg) 0) = 0 → (ab_E w d mt_M_determinant 48 [.ref mx, .int v1, .long v2, .null, .long v4, .null, .int v6, .int v7, .null, .null, .null] [] (I, L, ab_RR, n, nc, ns) res)) ∧ ((lg_cmp (L mx_laplace ((10 * v7) + v6).toNatClampNeg) 0) = 0 → (ab_E w d mt_M_determinant 18 [.ref mx, .int v1, .long v2, .null, .long v4, .null, .int v6, .int (v7 + 1), .null, .null, .null] [] (I, L, ab_RR, n, nc, ns) res))))))) : ab_E w d mt_M_determinant 18 [.ref mx, .int v1, .long v2, .null, .long v4, .null, .int v6, .int v7, .null, .null, .null] [] (I, L, ab_RR, n, nc, ns) res := by
  refine ab_iload (i := 7) d_M_determinant_18 rfl ?_
  refine ab_iload_n (i := 1) d_M_determinant_20 rfl rfl ?_
  refine ab_icmp_ge (tgt := 48) d_M_determinant_21 (by decide) (fun c1 => ?_) (fun c1 => ?_)
  · have h := h.1 c1
    exact h
  · have h := h.2 c1
    refine ab_aload_n (i := 0) d_M_determinant_24 rfl rfl ?_
    refine ab_getR (ci := 11) (k := 36) (j := mx_laplace) d_M_determinant_25 v_1404 rfl (by decide) (by decide) rfl r_mx_36 ?_
    refine ab_bipush (v := 10) d_M_determinant_28 rfl ?_
    refine ab_iload (i := 7) d_M_determinant_30 rfl ?_
    refine ab_imul d_M_determinant_32 ?_
    refine ab_iload (i := 6) d_M_determinant_33 rfl ?_
    refine ab_iadd d_M_determinant_35 ?_
    have g2 := h.1; have h := h.2
    refine ab_lald d_M_determinant_36 rfl rfl g2 ?_
    refine ab_lconst (v := 0) d_M_determinant_37 rfl ?_
    refine ab_lcmp d_M_determinant_38 ?_
    refine ab_if_ne (tgt := 48) d_M_determinant_39 (by decide) (fun c3 => ?_) (fun c3 => ?_)
    · have h := h.1 c3
      exact h
    · have h := h.2 c3
      refine ab_iinc (i := 7) (v := (v7 + 1)) d_M_determinant_42 rfl rfl (by decide) (Or.inr rfl) ?_
      refine ab_goto (tgt := 18) d_M_determinant_45 (by decide) ?_
      exact h
theorem q_M_determinant_48 {w : ab_Wd} {d n nc ns : Nat} {I : Nat → Nat → Int32} {L : Nat → Nat → Int64} {res : ab_Re} (v1 : Int32) (v2 : Int64) (v4 : Int64) (v6 : Int32) (v7 : Int32) (hc : nc ≤ res.2.2.2.2.2.1) (hs : ns ≤ res.2.2.2.2.2.2)
    (h : ((¬ v7 = v1 → (ab_E w d mt_M_determinant 59 [.ref mx, .int v1, .long v2, .null, .long v4, .null, .int v6, .int v7, .int 0, .null, .null] [] (I, L, ab_RR, n, nc, ns) res)) ∧ (v7 = v1 → (res = (.inl (some (.long 0)), (I, L, ab_RR, n, nc, ns)))))) : ab_E w d mt_M_determinant 48 [.ref mx, .int v1, .long v2, .null, .long v4, .null, .int v6, .int v7, .null, .null, .null] [] (I, L, ab_RR, n, nc, ns) res := by
  refine ab_iload (i := 7) d_M_determinant_48 rfl ?_
  refine ab_iload_n (i := 1) d_M_determinant_50 rfl rfl ?_
  refine ab_icmp_ne (tgt := 56) d_M_determinant_51 (by decide) (fun c1 => ?_) (fun c1 => ?_)
  · have h := h.1 c1
    refine ab_iconst (v := 0) d_M_determinant_56 rfl ?_
    refine ab_istore (i := 8) d_M_determinant_57 (by decide) (Or.inr rfl) ?_
    exact h
  · have h := h.2 c1
    refine ab_lconst (v := 0) d_M_determinant_54 rfl ?_
    exact ab_lret d_M_determinant_55 rfl h
theorem q_M_determinant_59 {w : ab_Wd} {d n nc ns : Nat} {I : Nat → Nat → Int32} {L : Nat → Nat → Int64} {res : ab_Re} (v1 : Int32) (v2 : Int64) (v4 : Int64) (v6 : Int32) (v7 : Int32) (v8 : Int32) (hc : nc ≤ res.2.2.2.2.2.1) (hs : ns ≤ res.2.2.2.2.2.2)
    (h : ((v1 ≤ v8 → (ab_E w d mt_M_determinant 134 [.ref mx, .int v1, .long v2, .null, .long v4, .null, .int v6, .int v7, .int v8, .null, .null] [] (I, L, ab_RR, n, nc, ns) res)) ∧ (¬ v1 ≤ v8 → ((v7 = v6 → (ab_E w d mt_M_determinant 134 [.ref mx, .int v1, .long v2, .null, .long v4, .null, .int v6, .int v7, .int v8, .null, .null] [] (I, L, ab_RR, n, nc, ns) res)) ∧ (¬ v7 = v6 → ((vp_in ((10 * v6) + v8) 100) ∧ (vp_in ((10 * v7) + v8) 100) ∧ ab_E w d mt_M_determinant 59 [.ref mx, .int v1, .long v2, .null, .long v4, .null, .int v6, .int v7, .int (v8 + 1), .null, .null] [] (I, (ab_upL (ab_upL L mx_laplace ((10 * v6) + v8).toNatClampNeg (L mx_laplace ((10 * v7) + v8).toNatClampNeg)) mx_laplace ((10 * v7) + v8).toNatClampNeg (L mx_laplace ((10 * v6) + v8).toNatClampNeg)), ab_RR, n, nc, ns) res)))))) : ab_E w d mt_M_determinant 59 [.ref mx, .int v1, .long v2, .null, .long v4, .null, .int v6, .int v7, .int v8, .null, .null] [] (I, L, ab_RR, n, nc, ns) res := by
  refine ab_iload (i := 8) d_M_determinant_59 rfl ?_
  refine ab_iload_n (i := 1) d_M_determinant_61 rfl rfl ?_
  refine ab_icmp_ge (tgt := 134) d_M_determinant_62 (by decide) (fun c1 => ?_) (fun c1 => ?_)
  · have h := h.1 c1
    exact h
  · have h := h.2 c1
    refine ab_iload (i := 7) d_M_determinant_65 rfl ?_
    refine ab_iload (i := 6) d_M_determinant_67 rfl ?_
    refine ab_icmp_eq (tgt := 134) d_M_determinant_69 (by decide) (fun c2 => ?_) (fun c2 => ?_)
    · have h := h.1 c2
      exact h
    · have h := h.2 c2
      refine ab_aload_n (i := 0) d_M_determinant_72 rfl rfl ?_
      refine ab_getR (ci := 11) (k := 36) (j := mx_laplace) d_M_determinant_73 v_1404 rfl (by decide) (by decide) rfl r_mx_36 ?_
      refine ab_bipush (v := 10) d_M_determinant_76 rfl ?_
      refine ab_iload (i := 6) d_M_determinant_78 rfl ?_
      refine ab_imul d_M_determinant_80 ?_
      refine ab_iload (i := 8) d_M_determinant_81 rfl ?_
      refine ab_iadd d_M_determinant_83 ?_
      have g3 := h.1; have h := h.2
      refine ab_lald d_M_determinant_84 rfl rfl g3 ?_
      refine ab_lstore (i := 9) d_M_determinant_85 (by decide) (Or.inr rfl) ?_
      refine ab_aload_n (i := 0) d_M_determinant_87 rfl rfl ?_
      refine ab_getR (ci := 11) (k := 36) (j := mx_laplace) d_M_determinant_88 v_1404 rfl (by decide) (by decide) rfl r_mx_36 ?_
      refine ab_bipush (v := 10) d_M_determinant_91 rfl ?_
      refine ab_iload (i := 6) d_M_determinant_93 rfl ?_
      refine ab_imul d_M_determinant_95 ?_
      refine ab_iload (i := 8) d_M_determinant_96 rfl ?_
      refine ab_iadd d_M_determinant_98 ?_
      refine ab_aload_n (i := 0) d_M_determinant_99 rfl rfl ?_
      refine ab_getR (ci := 11) (k := 36) (j := mx_laplace) d_M_determinant_100 v_1404 rfl (by decide) (by decide) rfl r_mx_36 ?_
      refine ab_bipush (v := 10) d_M_determinant_103 rfl ?_
      refine ab_iload (i := 7) d_M_determinant_105 rfl ?_
      refine ab_imul d_M_determinant_107 ?_
      refine ab_iload (i := 8) d_M_determinant_108 rfl ?_
      refine ab_iadd d_M_determinant_110 ?_
      have g4 := h.1; have h := h.2
      refine ab_lald d_M_determinant_111 rfl rfl g4 ?_
      refine ab_last d_M_determinant_112 rfl rfl g3 ?_
      refine ab_aload_n (i := 0) d_M_determinant_113 rfl rfl ?_
      refine ab_getR (ci := 11) (k := 36) (j := mx_laplace) d_M_determinant_114 v_1404 rfl (by decide) (by decide) rfl r_mx_36 ?_
      refine ab_bipush (v := 10) d_M_determinant_117 rfl ?_
      refine ab_iload (i := 7) d_M_determinant_119 rfl ?_
      refine ab_imul d_M_determinant_121 ?_
      refine ab_iload (i := 8) d_M_determinant_122 rfl ?_
      refine ab_iadd d_M_determinant_124 ?_
      refine ab_lload (i := 9) d_M_determinant_125 rfl ?_
      refine ab_last d_M_determinant_127 rfl rfl g4 ?_
      refine ab_iinc (i := 8) (v := (v8 + 1)) d_M_determinant_128 rfl rfl (by decide) (Or.inr rfl) ?_
      refine ab_goto (tgt := 59) d_M_determinant_131 (by decide) ?_
      refine ab_drop 9 ?_
      exact h
theorem q_M_determinant_134 {w : ab_Wd} {d n nc ns : Nat} {I : Nat → Nat → Int32} {L : Nat → Nat → Int64} {res : ab_Re} (v1 : Int32) (v2 : Int64) (v4 : Int64) (v6 : Int32) (v7 : Int32) (v8 : Int32) (hc : nc ≤ res.2.2.2.2.2.1) (hs : ns ≤ res.2.2.2.2.2.2)
    (h : ((v7 = v6 → (ab_E w d mt_M_determinant 149 [.ref mx, .int v1, .long v2, .null, .long v4, .null, .int v6, .int v7, .int v8, .null, .null] [.long v4] (I, L, ab_RR, n, nc, ns) res)) ∧ (¬ v7 = v6 → (ab_E w d mt_M_determinant 149 [.ref mx, .int v1, .long v2, .null, .long v4, .null, .int v6, .int v7, .int v8, .null, .null] [.long (-v4)] (I, L, ab_RR, n, nc, ns) res)))) : ab_E w d mt_M_determinant 134 [.ref mx, .int v1, .long v2, .null, .long v4, .null, .int v6, .int v7, .int v8, .null, .null] [] (I, L, ab_RR, n, nc, ns) res := by
  refine ab_iload (i := 7) d_M_determinant_134 rfl ?_
  refine ab_iload (i := 6) d_M_determinant_136 rfl ?_
  refine ab_icmp_eq (tgt := 147) d_M_determinant_138 (by decide) (fun c1 => ?_) (fun c1 => ?_)
  · have h := h.1 c1
    refine ab_lload (i := 4) d_M_determinant_147 rfl ?_
    exact h
  · have h := h.2 c1
    refine ab_lload (i := 4) d_M_determinant_141 rfl ?_
    refine ab_lneg d_M_determinant_143 ?_
    refine ab_goto (tgt := 149) d_M_determinant_144 (by decide) ?_
    exact h
theorem q_M_determinant_149 {w : ab_Wd} {d n nc ns : Nat} {I : Nat → Nat → Int32} {L : Nat → Nat → Int64} {res : ab_Re} (v1 : Int32) (v2 : Int64) (v4 : Int64) (v6 : Int32) (v7 : Int32) (v8 : Int32) (s0 : Int64) (hc : nc ≤ res.2.2.2.2.2.1) (hs : ns ≤ res.2.2.2.2.2.2)
    (h : ab_E w d mt_M_determinant 157 [.ref mx, .int v1, .long v2, .null, .long s0, .null, .int v6, .int v7, .int (v6 + 1), .null, .null] [] (I, L, ab_RR, n, nc, ns) res) : ab_E w d mt_M_determinant 149 [.ref mx, .int v1, .long v2, .null, .long v4, .null, .int v6, .int v7, .int v8, .null, .null] [.long s0] (I, L, ab_RR, n, nc, ns) res := by
  refine ab_lstore (i := 4) d_M_determinant_149 (by decide) (Or.inr rfl) ?_
  refine ab_iload (i := 6) d_M_determinant_151 rfl ?_
  refine ab_iconst (v := 1) d_M_determinant_153 rfl ?_
  refine ab_iadd d_M_determinant_154 ?_
  refine ab_istore (i := 8) d_M_determinant_155 (by decide) (Or.inr rfl) ?_
  exact h
theorem q_M_determinant_157 {w : ab_Wd} {d n nc ns : Nat} {I : Nat → Nat → Int32} {L : Nat → Nat → Int64} {res : ab_Re} (v1 : Int32) (v2 : Int64) (v4 : Int64) (v6 : Int32) (v7 : Int32) (v8 : Int32) (hc : nc ≤ res.2.2.2.2.2.1) (hs : ns ≤ res.2.2.2.2.2.2)
    (h : ((v1 ≤ v8 → ((vp_in ((10 * v6) + v6) 100) ∧ ab_E w d mt_M_determinant 8 [.ref mx, .int v1, .long (L mx_laplace ((10 * v6) + v6).toNatClampNeg), .null, .long v4, .null, .int (v6 + 1), .null, .null, .null, .null] [] (I, L, ab_RR, n, nc, ns) res)) ∧ (¬ v1 ≤ v8 → (ab_E w d mt_M_determinant 169 [.ref mx, .int v1, .long v2, .null, .long v4, .null, .int v6, .int v7, .int v8, .int (v6 + 1), .null] [] (I, L, ab_RR, n, nc, ns) res)))) : ab_E w d mt_M_determinant 157 [.ref mx, .int v1, .long v2, .null, .long v4, .null, .int v6, .int v7, .int v8, .null, .null] [] (I, L, ab_RR, n, nc, ns) res := by
  refine ab_iload (i := 8) d_M_determinant_157 rfl ?_
  refine ab_iload_n (i := 1) d_M_determinant_159 rfl rfl ?_
  refine ab_icmp_ge (tgt := 257) d_M_determinant_160 (by decide) (fun c1 => ?_) (fun c1 => ?_)
  · have h := h.1 c1
    refine ab_aload_n (i := 0) d_M_determinant_257 rfl rfl ?_
    refine ab_getR (ci := 11) (k := 36) (j := mx_laplace) d_M_determinant_258 v_1404 rfl (by decide) (by decide) rfl r_mx_36 ?_
    refine ab_bipush (v := 10) d_M_determinant_261 rfl ?_
    refine ab_iload (i := 6) d_M_determinant_263 rfl ?_
    refine ab_imul d_M_determinant_265 ?_
    refine ab_iload (i := 6) d_M_determinant_266 rfl ?_
    refine ab_iadd d_M_determinant_268 ?_
    have g2 := h.1; have h := h.2
    refine ab_lald d_M_determinant_269 rfl rfl g2 ?_
    refine ab_lstore_n (i := 2) d_M_determinant_270 rfl (by decide) (Or.inr rfl) ?_
    refine ab_iinc (i := 6) (v := (v6 + 1)) d_M_determinant_271 rfl rfl (by decide) (Or.inr rfl) ?_
    refine ab_goto (tgt := 8) d_M_determinant_274 (by decide) ?_
    refine ab_drop 7 ?_
    refine ab_drop 8 ?_
    exact h
  · have h := h.2 c1
    refine ab_iload (i := 6) d_M_determinant_163 rfl ?_
    refine ab_iconst (v := 1) d_M_determinant_165 rfl ?_
    refine ab_iadd d_M_determinant_166 ?_
    refine ab_istore (i := 9) d_M_determinant_167 (by decide) (Or.inr rfl) ?_
    exact h
theorem q_M_determinant_169 {w : ab_Wd} {d n nc ns : Nat} {I : Nat → Nat → Int32} {L : Nat → Nat → Int64} {res : ab_Re} (v1 : Int32) (v2 : Int64) (v4 : Int64) (v6 : Int32) (v7 : Int32) (v8 : Int32) (v9 : Int32) (hc : nc ≤ res.2.2.2.2.2.1) (hs : ns ≤ res.2.2.2.2.2.2)
    (h : ((v1 ≤ v9 → (ab_E w d mt_M_determinant 157 [.ref mx, .int v1, .long v2, .null, .long v4, .null, .int v6, .int v7, .int (v8 + 1), .null, .null] [] (I, L, ab_RR, n, nc, ns) res)) ∧ (¬ v1 ≤ v9 → ((vp_in ((10 * v6) + v6) 100) ∧ (vp_in ((10 * v8) + v9) 100) ∧ (vp_in ((10 * v8) + v6) 100) ∧ (vp_in ((10 * v6) + v9) 100) ∧ (¬ v2 = 0) ∧ ab_E w d mt_M_determinant 169 [.ref mx, .int v1, .long v2, .null, .long v4, .null, .int v6, .int v7, .int v8, .int (v9 + 1), .null] [] (I, (ab_upL L mx_laplace ((10 * v8) + v9).toNatClampNeg ((((L mx_laplace ((10 * v6) + v6).toNatClampNeg) * (L mx_laplace ((10 * v8) + v9).toNatClampNeg)) - ((L mx_laplace ((10 * v8) + v6).toNatClampNeg) * (L mx_laplace ((10 * v6) + v9).toNatClampNeg))) / v2)), ab_RR, n, nc, ns) res)))) : ab_E w d mt_M_determinant 169 [.ref mx, .int v1, .long v2, .null, .long v4, .null, .int v6, .int v7, .int v8, .int v9, .null] [] (I, L, ab_RR, n, nc, ns) res := by
  refine ab_iload (i := 9) d_M_determinant_169 rfl ?_
  refine ab_iload_n (i := 1) d_M_determinant_171 rfl rfl ?_
  refine ab_icmp_ge (tgt := 251) d_M_determinant_172 (by decide) (fun c1 => ?_) (fun c1 => ?_)
  · have h := h.1 c1
    refine ab_iinc (i := 8) (v := (v8 + 1)) d_M_determinant_251 rfl rfl (by decide) (Or.inr rfl) ?_
    refine ab_goto (tgt := 157) d_M_determinant_254 (by decide) ?_
    refine ab_drop 9 ?_
    exact h
  · have h := h.2 c1
    refine ab_aload_n (i := 0) d_M_determinant_175 rfl rfl ?_
    refine ab_getR (ci := 11) (k := 36) (j := mx_laplace) d_M_determinant_176 v_1404 rfl (by decide) (by decide) rfl r_mx_36 ?_
    refine ab_bipush (v := 10) d_M_determinant_179 rfl ?_
    refine ab_iload (i := 8) d_M_determinant_181 rfl ?_
    refine ab_imul d_M_determinant_183 ?_
    refine ab_iload (i := 9) d_M_determinant_184 rfl ?_
    refine ab_iadd d_M_determinant_186 ?_
    refine ab_aload_n (i := 0) d_M_determinant_187 rfl rfl ?_
    refine ab_getR (ci := 11) (k := 36) (j := mx_laplace) d_M_determinant_188 v_1404 rfl (by decide) (by decide) rfl r_mx_36 ?_
    refine ab_bipush (v := 10) d_M_determinant_191 rfl ?_
    refine ab_iload (i := 6) d_M_determinant_193 rfl ?_
    refine ab_imul d_M_determinant_195 ?_
    refine ab_iload (i := 6) d_M_determinant_196 rfl ?_
    refine ab_iadd d_M_determinant_198 ?_
    have g2 := h.1; have h := h.2
    refine ab_lald d_M_determinant_199 rfl rfl g2 ?_
    refine ab_aload_n (i := 0) d_M_determinant_200 rfl rfl ?_
    refine ab_getR (ci := 11) (k := 36) (j := mx_laplace) d_M_determinant_201 v_1404 rfl (by decide) (by decide) rfl r_mx_36 ?_
    refine ab_bipush (v := 10) d_M_determinant_204 rfl ?_
    refine ab_iload (i := 8) d_M_determinant_206 rfl ?_
    refine ab_imul d_M_determinant_208 ?_
    refine ab_iload (i := 9) d_M_determinant_209 rfl ?_
    refine ab_iadd d_M_determinant_211 ?_
    have g3 := h.1; have h := h.2
    refine ab_lald d_M_determinant_212 rfl rfl g3 ?_
    refine ab_lmul d_M_determinant_213 ?_
    refine ab_aload_n (i := 0) d_M_determinant_214 rfl rfl ?_
    refine ab_getR (ci := 11) (k := 36) (j := mx_laplace) d_M_determinant_215 v_1404 rfl (by decide) (by decide) rfl r_mx_36 ?_
    refine ab_bipush (v := 10) d_M_determinant_218 rfl ?_
    refine ab_iload (i := 8) d_M_determinant_220 rfl ?_
    refine ab_imul d_M_determinant_222 ?_
    refine ab_iload (i := 6) d_M_determinant_223 rfl ?_
    refine ab_iadd d_M_determinant_225 ?_
    have g4 := h.1; have h := h.2
    refine ab_lald d_M_determinant_226 rfl rfl g4 ?_
    refine ab_aload_n (i := 0) d_M_determinant_227 rfl rfl ?_
    refine ab_getR (ci := 11) (k := 36) (j := mx_laplace) d_M_determinant_228 v_1404 rfl (by decide) (by decide) rfl r_mx_36 ?_
    refine ab_bipush (v := 10) d_M_determinant_231 rfl ?_
    refine ab_iload (i := 6) d_M_determinant_233 rfl ?_
    refine ab_imul d_M_determinant_235 ?_
    refine ab_iload (i := 9) d_M_determinant_236 rfl ?_
    refine ab_iadd d_M_determinant_238 ?_
    have g5 := h.1; have h := h.2
    refine ab_lald d_M_determinant_239 rfl rfl g5 ?_
    refine ab_lmul d_M_determinant_240 ?_
    refine ab_lsub d_M_determinant_241 ?_
    refine ab_lload_n (i := 2) d_M_determinant_242 rfl rfl ?_
    have g := h.1; have h := h.2
    refine ab_ldiv d_M_determinant_243 g ?_
    refine ab_last d_M_determinant_244 rfl rfl g3 ?_
    refine ab_iinc (i := 9) (v := (v9 + 1)) d_M_determinant_245 rfl rfl (by decide) (Or.inr rfl) ?_
    refine ab_goto (tgt := 169) d_M_determinant_248 (by decide) ?_
    exact h
