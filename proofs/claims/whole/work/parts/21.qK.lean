theorem d_K_count_0 : decode (ab_bc mt_K_count) 0 = .ok (.iload_n 1, 1) := by decide +kernel
theorem d_K_count_1 : decode (ab_bc mt_K_count) 1 = .ok (.tableswitch 301 0 22 #[107, 118, 129, 140, 148, 156, 164, 175, 186, 191, 196, 204, 209, 220, 228, 233, 243, 253, 263, 268, 273, 281, 296], 107) := by decide +kernel
theorem d_K_count_108 : decode (ab_bc mt_K_count) 108 = .ok (.aload_n 0, 1) := by decide +kernel
theorem d_K_count_109 : decode (ab_bc mt_K_count) 109 = .ok (.getfield 23, 3) := by decide +kernel
theorem d_K_count_112 : decode (ab_bc mt_K_count) 112 = .ok (.getfield 110, 3) := by decide +kernel
theorem d_K_count_115 : decode (ab_bc mt_K_count) 115 = .ok (.getfield 113, 3) := by decide +kernel
theorem d_K_count_118 : decode (ab_bc mt_K_count) 118 = .ok (.ireturn, 1) := by decide +kernel
theorem d_K_count_119 : decode (ab_bc mt_K_count) 119 = .ok (.aload_n 0, 1) := by decide +kernel
theorem d_K_count_120 : decode (ab_bc mt_K_count) 120 = .ok (.getfield 23, 3) := by decide +kernel
theorem d_K_count_123 : decode (ab_bc mt_K_count) 123 = .ok (.getfield 110, 3) := by decide +kernel
theorem d_K_count_126 : decode (ab_bc mt_K_count) 126 = .ok (.getfield 116, 3) := by decide +kernel
theorem d_K_count_129 : decode (ab_bc mt_K_count) 129 = .ok (.ireturn, 1) := by decide +kernel
theorem d_K_count_130 : decode (ab_bc mt_K_count) 130 = .ok (.aload_n 0, 1) := by decide +kernel
theorem d_K_count_131 : decode (ab_bc mt_K_count) 131 = .ok (.getfield 23, 3) := by decide +kernel
theorem d_K_count_134 : decode (ab_bc mt_K_count) 134 = .ok (.getfield 110, 3) := by decide +kernel
theorem d_K_count_137 : decode (ab_bc mt_K_count) 137 = .ok (.getfield 119, 3) := by decide +kernel
theorem d_K_count_140 : decode (ab_bc mt_K_count) 140 = .ok (.ireturn, 1) := by decide +kernel
theorem d_K_count_141 : decode (ab_bc mt_K_count) 141 = .ok (.aload_n 0, 1) := by decide +kernel
theorem d_K_count_142 : decode (ab_bc mt_K_count) 142 = .ok (.getfield 37, 3) := by decide +kernel
theorem d_K_count_145 : decode (ab_bc mt_K_count) 145 = .ok (.getfield 122, 3) := by decide +kernel
theorem d_K_count_148 : decode (ab_bc mt_K_count) 148 = .ok (.ireturn, 1) := by decide +kernel
theorem d_K_count_149 : decode (ab_bc mt_K_count) 149 = .ok (.aload_n 0, 1) := by decide +kernel
theorem d_K_count_150 : decode (ab_bc mt_K_count) 150 = .ok (.getfield 37, 3) := by decide +kernel
theorem d_K_count_153 : decode (ab_bc mt_K_count) 153 = .ok (.getfield 125, 3) := by decide +kernel
theorem d_K_count_156 : decode (ab_bc mt_K_count) 156 = .ok (.ireturn, 1) := by decide +kernel
theorem d_K_count_157 : decode (ab_bc mt_K_count) 157 = .ok (.aload_n 0, 1) := by decide +kernel
theorem d_K_count_158 : decode (ab_bc mt_K_count) 158 = .ok (.getfield 37, 3) := by decide +kernel
theorem d_K_count_161 : decode (ab_bc mt_K_count) 161 = .ok (.getfield 128, 3) := by decide +kernel
theorem d_K_count_164 : decode (ab_bc mt_K_count) 164 = .ok (.ireturn, 1) := by decide +kernel
theorem d_K_count_165 : decode (ab_bc mt_K_count) 165 = .ok (.aload_n 0, 1) := by decide +kernel
theorem d_K_count_166 : decode (ab_bc mt_K_count) 166 = .ok (.getfield 23, 3) := by decide +kernel
theorem d_K_count_169 : decode (ab_bc mt_K_count) 169 = .ok (.getfield 131, 3) := by decide +kernel
theorem d_K_count_172 : decode (ab_bc mt_K_count) 172 = .ok (.invokevirtual 135, 3) := by decide +kernel
theorem d_K_count_175 : decode (ab_bc mt_K_count) 175 = .ok (.ireturn, 1) := by decide +kernel
theorem d_K_count_176 : decode (ab_bc mt_K_count) 176 = .ok (.aload_n 0, 1) := by decide +kernel
theorem d_K_count_177 : decode (ab_bc mt_K_count) 177 = .ok (.getfield 23, 3) := by decide +kernel
theorem d_K_count_180 : decode (ab_bc mt_K_count) 180 = .ok (.getfield 131, 3) := by decide +kernel
theorem d_K_count_183 : decode (ab_bc mt_K_count) 183 = .ok (.getfield 140, 3) := by decide +kernel
theorem d_K_count_186 : decode (ab_bc mt_K_count) 186 = .ok (.ireturn, 1) := by decide +kernel
theorem d_K_count_187 : decode (ab_bc mt_K_count) 187 = .ok (.aload_n 0, 1) := by decide +kernel
theorem d_K_count_188 : decode (ab_bc mt_K_count) 188 = .ok (.invokevirtual 143, 3) := by decide +kernel
theorem d_K_count_191 : decode (ab_bc mt_K_count) 191 = .ok (.ireturn, 1) := by decide +kernel
theorem d_K_count_192 : decode (ab_bc mt_K_count) 192 = .ok (.aload_n 0, 1) := by decide +kernel
theorem d_K_count_193 : decode (ab_bc mt_K_count) 193 = .ok (.invokevirtual 146, 3) := by decide +kernel
theorem d_K_count_196 : decode (ab_bc mt_K_count) 196 = .ok (.ireturn, 1) := by decide +kernel
theorem d_K_count_197 : decode (ab_bc mt_K_count) 197 = .ok (.aload_n 0, 1) := by decide +kernel
theorem d_K_count_198 : decode (ab_bc mt_K_count) 198 = .ok (.getfield 44, 3) := by decide +kernel
theorem d_K_count_201 : decode (ab_bc mt_K_count) 201 = .ok (.invokevirtual 149, 3) := by decide +kernel
theorem d_K_count_204 : decode (ab_bc mt_K_count) 204 = .ok (.ireturn, 1) := by decide +kernel
theorem d_K_count_205 : decode (ab_bc mt_K_count) 205 = .ok (.aload_n 0, 1) := by decide +kernel
theorem d_K_count_206 : decode (ab_bc mt_K_count) 206 = .ok (.invokevirtual 152, 3) := by decide +kernel
theorem d_K_count_209 : decode (ab_bc mt_K_count) 209 = .ok (.ireturn, 1) := by decide +kernel
theorem d_K_count_210 : decode (ab_bc mt_K_count) 210 = .ok (.aload_n 0, 1) := by decide +kernel
theorem d_K_count_211 : decode (ab_bc mt_K_count) 211 = .ok (.getfield 23, 3) := by decide +kernel
theorem d_K_count_214 : decode (ab_bc mt_K_count) 214 = .ok (.getfield 155, 3) := by decide +kernel
theorem d_K_count_217 : decode (ab_bc mt_K_count) 217 = .ok (.getfield 159, 3) := by decide +kernel
theorem d_K_count_220 : decode (ab_bc mt_K_count) 220 = .ok (.ireturn, 1) := by decide +kernel
theorem d_K_count_221 : decode (ab_bc mt_K_count) 221 = .ok (.aload_n 0, 1) := by decide +kernel
theorem d_K_count_222 : decode (ab_bc mt_K_count) 222 = .ok (.getfield 23, 3) := by decide +kernel
theorem d_K_count_225 : decode (ab_bc mt_K_count) 225 = .ok (.getfield 164, 3) := by decide +kernel
theorem d_K_count_228 : decode (ab_bc mt_K_count) 228 = .ok (.ireturn, 1) := by decide +kernel
theorem d_K_count_229 : decode (ab_bc mt_K_count) 229 = .ok (.aload_n 0, 1) := by decide +kernel
theorem d_K_count_230 : decode (ab_bc mt_K_count) 230 = .ok (.getfield 13, 3) := by decide +kernel
theorem d_K_count_233 : decode (ab_bc mt_K_count) 233 = .ok (.ireturn, 1) := by decide +kernel
theorem d_K_count_234 : decode (ab_bc mt_K_count) 234 = .ok (.aload_n 0, 1) := by decide +kernel
theorem d_K_count_235 : decode (ab_bc mt_K_count) 235 = .ok (.getfield 23, 3) := by decide +kernel
theorem d_K_count_238 : decode (ab_bc mt_K_count) 238 = .ok (.getfield 103, 3) := by decide +kernel
theorem d_K_count_241 : decode (ab_bc mt_K_count) 241 = .ok (.iconst 0, 1) := by decide +kernel
theorem d_K_count_242 : decode (ab_bc mt_K_count) 242 = .ok (.iaload, 1) := by decide +kernel
theorem d_K_count_243 : decode (ab_bc mt_K_count) 243 = .ok (.ireturn, 1) := by decide +kernel
theorem d_K_count_244 : decode (ab_bc mt_K_count) 244 = .ok (.aload_n 0, 1) := by decide +kernel
theorem d_K_count_245 : decode (ab_bc mt_K_count) 245 = .ok (.getfield 23, 3) := by decide +kernel
theorem d_K_count_248 : decode (ab_bc mt_K_count) 248 = .ok (.getfield 103, 3) := by decide +kernel
theorem d_K_count_251 : decode (ab_bc mt_K_count) 251 = .ok (.iconst 1, 1) := by decide +kernel
theorem d_K_count_252 : decode (ab_bc mt_K_count) 252 = .ok (.iaload, 1) := by decide +kernel
theorem d_K_count_253 : decode (ab_bc mt_K_count) 253 = .ok (.ireturn, 1) := by decide +kernel
theorem d_K_count_254 : decode (ab_bc mt_K_count) 254 = .ok (.aload_n 0, 1) := by decide +kernel
theorem d_K_count_255 : decode (ab_bc mt_K_count) 255 = .ok (.getfield 23, 3) := by decide +kernel
theorem d_K_count_258 : decode (ab_bc mt_K_count) 258 = .ok (.getfield 103, 3) := by decide +kernel
theorem d_K_count_261 : decode (ab_bc mt_K_count) 261 = .ok (.iconst 2, 1) := by decide +kernel
theorem d_K_count_262 : decode (ab_bc mt_K_count) 262 = .ok (.iaload, 1) := by decide +kernel
theorem d_K_count_263 : decode (ab_bc mt_K_count) 263 = .ok (.ireturn, 1) := by decide +kernel
theorem d_K_count_264 : decode (ab_bc mt_K_count) 264 = .ok (.aload_n 0, 1) := by decide +kernel
theorem d_K_count_265 : decode (ab_bc mt_K_count) 265 = .ok (.invokevirtual 167, 3) := by decide +kernel
theorem d_K_count_268 : decode (ab_bc mt_K_count) 268 = .ok (.ireturn, 1) := by decide +kernel
theorem d_K_count_269 : decode (ab_bc mt_K_count) 269 = .ok (.aload_n 0, 1) := by decide +kernel
theorem d_K_count_270 : decode (ab_bc mt_K_count) 270 = .ok (.invokevirtual 170, 3) := by decide +kernel
theorem d_K_count_273 : decode (ab_bc mt_K_count) 273 = .ok (.ireturn, 1) := by decide +kernel
theorem d_K_count_274 : decode (ab_bc mt_K_count) 274 = .ok (.aload_n 0, 1) := by decide +kernel
theorem d_K_count_275 : decode (ab_bc mt_K_count) 275 = .ok (.getfield 44, 3) := by decide +kernel
theorem d_K_count_278 : decode (ab_bc mt_K_count) 278 = .ok (.invokevirtual 173, 3) := by decide +kernel
theorem d_K_count_281 : decode (ab_bc mt_K_count) 281 = .ok (.ireturn, 1) := by decide +kernel
theorem d_K_count_282 : decode (ab_bc mt_K_count) 282 = .ok (.aload_n 0, 1) := by decide +kernel
theorem d_K_count_283 : decode (ab_bc mt_K_count) 283 = .ok (.getfield 44, 3) := by decide +kernel
theorem d_K_count_286 : decode (ab_bc mt_K_count) 286 = .ok (.aload_n 0, 1) := by decide +kernel
theorem d_K_count_287 : decode (ab_bc mt_K_count) 287 = .ok (.getfield 44, 3) := by decide +kernel
theorem d_K_count_290 : decode (ab_bc mt_K_count) 290 = .ok (.invokevirtual 173, 3) := by decide +kernel
theorem d_K_count_293 : decode (ab_bc mt_K_count) 293 = .ok (.invokevirtual 176, 3) := by decide +kernel
theorem d_K_count_296 : decode (ab_bc mt_K_count) 296 = .ok (.ireturn, 1) := by decide +kernel
theorem d_K_count_297 : decode (ab_bc mt_K_count) 297 = .ok (.aload_n 0, 1) := by decide +kernel
theorem d_K_count_298 : decode (ab_bc mt_K_count) 298 = .ok (.invokevirtual 180, 3) := by decide +kernel
theorem d_K_count_301 : decode (ab_bc mt_K_count) 301 = .ok (.ireturn, 1) := by decide +kernel
theorem d_K_count_302 : decode (ab_bc mt_K_count) 302 = .ok (.new 183, 3) := by decide +kernel
theorem d_K_count_305 : decode (ab_bc mt_K_count) 305 = .ok (.dup, 1) := by decide +kernel
theorem d_K_count_306 : decode (ab_bc mt_K_count) 306 = .ok (.invokespecial 185, 3) := by decide +kernel
theorem d_K_count_309 : decode (ab_bc mt_K_count) 309 = .ok (.athrow, 1) := by decide +kernel
-- CableKeeper.count(I)I over kx
theorem q_K_count_0 {w : ab_Wd} {d n nc ns : Nat} {I : Nat → Nat → Int32} {L : Nat → Nat → Int64} {res : ab_Re} (v1 : Int32) (h8 : 8 ≤ (d + 1)) (hc : nc ≤ res.2.2.2.2.2.1) (hs : ns ≤ res.2.2.2.2.2.2)
    (h : ((v1 = 0 → (res = (.inl (some (.int (I kx_now_cables 0))), (I, L, ab_RR, n, nc, ns)))) ∧ (v1 = 1 → (res = (.inl (some (.int (I kx_now_cables 1))), (I, L, ab_RR, n, nc, ns)))) ∧ (v1 = 2 → (res = (.inl (some (.int (I kx_now_cables 2))), (I, L, ab_RR, n, nc, ns)))) ∧ (v1 = 3 → (res = (.inl (some (.int (I kx_forest 2))), (I, L, ab_RR, n, nc, ns)))) ∧ (v1 = 4 → (res = (.inl (some (.int (I kx_forest 3))), (I, L, ab_RR, n, nc, ns)))) ∧ (v1 = 5 → (res = (.inl (some (.int (I kx_forest 4))), (I, L, ab_RR, n, nc, ns)))) ∧ (v1 = 6 → (∃ (r1 : Int32), ab_C w d mt_Swaps_shown [.ref kx_now_swaps] (I, L, ab_RR, n, nc, ns) (.inl (some (.int r1)), (I, L, ab_RR, n, nc, ns)) ∧ res = (.inl (some (.int r1)), (I, L, ab_RR, n, nc, ns)))) ∧ (v1 = 7 → (res = (.inl (some (.int (I kx_now_swaps 1))), (I, L, ab_RR, n, nc, ns)))) ∧ (v1 = 8 → (∃ (r2 : Int32), ab_C w d mt_K_nextBest [.ref kx] (I, L, ab_RR, n, nc, ns) (.inl (some (.int r2)), (I, L, ab_RR, n, nc, ns)) ∧ res = (.inl (some (.int r2)), (I, L, ab_RR, n, nc, ns)))) ∧ (v1 = 9 → (∃ (r3 : Int32), ab_C w d mt_K_hub [.ref kx] (I, L, ab_RR, n, nc, ns) (.inl (some (.int r3)), (I, L, ab_RR, n, nc, ns)) ∧ res = (.inl (some (.int r3)), (I, L, ab_RR, n, nc, ns)))) ∧ (v1 = 10 → (∃ (r4 : Int32), ab_C w d mt_Ways_longest [.ref kx_ways] (I, L, ab_RR, n, nc, ns) (.inl (some (.int r4)), (I, L, ab_RR, n, nc, ns)) ∧ res = (.inl (some (.int r4)), (I, L, ab_RR, n, nc, ns)))) ∧ (v1 = 11 → (∃ (r5 : Int32) (I6 : Nat → Nat → Int32), ab_C w d mt_K_twins [.ref kx] (I, L, ab_RR, n, nc, ns) (.inl (some (.int r5)), (I6, L, ab_RR, n, nc, ns)) ∧ res = (.inl (some (.int r5)), (I6, L, ab_RR, n, nc, ns)))) ∧ (v1 = 12 → (res = (.inl (some (.int (I kx_now_acts 5))), (I, L, ab_RR, n, nc, ns)))) ∧ (v1 = 13 → (res = (.inl (some (.int (I kx_now 3))), (I, L, ab_RR, n, nc, ns)))) ∧ (v1 = 14 → (res = (.inl (some (.int (I kx 1))), (I, L, ab_RR, n, nc, ns)))) ∧ (v1 = 15 → (res = (.inl (some (.int (I kx_now_refused 0))), (I, L, ab_RR, n, nc, ns)))) ∧ (v1 = 16 → (res = (.inl (some (.int (I kx_now_refused 1))), (I, L, ab_RR, n, nc, ns)))) ∧ (v1 = 17 → (res = (.inl (some (.int (I kx_now_refused 2))), (I, L, ab_RR, n, nc, ns)))) ∧ (v1 = 18 → (∃ (r7 : Int32) (I8 : Nat → Nat → Int32), ab_C w d mt_K_weakCouples [.ref kx] (I, L, ab_RR, n, nc, ns) (.inl (some (.int r7)), (I8, L, ab_RR, n, nc, ns)) ∧ res = (.inl (some (.int r7)), (I8, L, ab_RR, n, nc, ns)))) ∧ (v1 = 19 → (∃ (r9 : Int32) (I10 : Nat → Nat → Int32), ab_C w d mt_K_firstWeak [.ref kx] (I, L, ab_RR, n, nc, ns) (.inl (some (.int r9)), (I10, L, ab_RR, n, nc, ns)) ∧ res = (.inl (some (.int r9)), (I10, L, ab_RR, n, nc, ns)))) ∧ (v1 = 20 → (∃ (r11 : Int32), ab_C w d mt_Ways_centre [.ref kx_ways] (I, L, ab_RR, n, nc, ns) (.inl (some (.int r11)), (I, L, ab_RR, n, nc, ns)) ∧ res = (.inl (some (.int r11)), (I, L, ab_RR, n, nc, ns)))) ∧ (v1 = 21 → (∃ (r12 : Int32), ab_C w d mt_Ways_centre [.ref kx_ways] (I, L, ab_RR, n, nc, ns) (.inl (some (.int r12)), (I, L, ab_RR, n, nc, ns)) ∧ ∃ (r13 : Int32), ab_C w d mt_Ways_farthest [.ref kx_ways, .int r12] (I, L, ab_RR, n, nc, ns) (.inl (some (.int r13)), (I, L, ab_RR, n, nc, ns)) ∧ res = (.inl (some (.int r13)), (I, L, ab_RR, n, nc, ns)))) ∧ (v1 = 22 → (∃ (r14 : Int32) (I15 : Nat → Nat → Int32), ab_C w d mt_K_detours [.ref kx] (I, L, ab_RR, n, nc, ns) (.inl (some (.int r14)), (I15, L, ab_RR, n, nc, ns)) ∧ res = (.inl (some (.int r14)), (I15, L, ab_RR, n, nc, ns)))) ∧ ((v1.toInt < 0 ∨ 22 < v1.toInt) → (res = (.inr "java/util/NoSuchElementException", (I, L, ab_RR, n, nc + 1, ns + 6)))))) : ab_E w (d + 1) mt_K_count 0 [.ref kx, .int v1] [] (I, L, ab_RR, n, nc, ns) res := by
  refine ab_iload_n (i := 1) d_K_count_0 rfl rfl ?_
  by_cases c16 : v1 = 0
  · have h := h.1 c16
    refine ab_tabIn (tgt := 108) d_K_count_1 (by rw [c16]; decide) (by rw [c16]; decide) (by rw [ab_tab_in (j := 0) c16 (by decide)]; rfl) (by decide) ?_
    refine ab_aload_n (i := 0) d_K_count_108 rfl rfl ?_
    refine ab_getR (ci := 10) (k := 3) (j := kx_now) d_K_count_109 v_475 rfl (by decide) (by decide) rfl r_kx_3 ?_
    refine ab_getR (ci := 6) (k := 0) (j := kx_now_cables) d_K_count_112 v_294 rfl (by decide) (by decide) rfl r_kx_now_0 ?_
    refine ab_getI (ci := 1) (k := 0) d_K_count_115 v_190 rfl (by decide) (by decide) rfl ?_
    exact ab_iret (ty := .int) d_K_count_118 rfl rfl h
  by_cases c17 : v1 = 1
  · have h := h.2.1 c17
    refine ab_tabIn (tgt := 119) d_K_count_1 (by rw [c17]; decide) (by rw [c17]; decide) (by rw [ab_tab_in (j := 1) c17 (by decide)]; rfl) (by decide) ?_
    refine ab_aload_n (i := 0) d_K_count_119 rfl rfl ?_
    refine ab_getR (ci := 10) (k := 3) (j := kx_now) d_K_count_120 v_475 rfl (by decide) (by decide) rfl r_kx_3 ?_
    refine ab_getR (ci := 6) (k := 0) (j := kx_now_cables) d_K_count_123 v_294 rfl (by decide) (by decide) rfl r_kx_now_0 ?_
    refine ab_getI (ci := 1) (k := 1) d_K_count_126 v_199 rfl (by decide) (by decide) rfl ?_
    exact ab_iret (ty := .int) d_K_count_129 rfl rfl h
  by_cases c18 : v1 = 2
  · have h := h.2.2.1 c18
    refine ab_tabIn (tgt := 130) d_K_count_1 (by rw [c18]; decide) (by rw [c18]; decide) (by rw [ab_tab_in (j := 2) c18 (by decide)]; rfl) (by decide) ?_
    refine ab_aload_n (i := 0) d_K_count_130 rfl rfl ?_
    refine ab_getR (ci := 10) (k := 3) (j := kx_now) d_K_count_131 v_475 rfl (by decide) (by decide) rfl r_kx_3 ?_
    refine ab_getR (ci := 6) (k := 0) (j := kx_now_cables) d_K_count_134 v_294 rfl (by decide) (by decide) rfl r_kx_now_0 ?_
    refine ab_getI (ci := 1) (k := 2) d_K_count_137 v_202 rfl (by decide) (by decide) rfl ?_
    exact ab_iret (ty := .int) d_K_count_140 rfl rfl h
  by_cases c19 : v1 = 3
  · have h := h.2.2.2.1 c19
    refine ab_tabIn (tgt := 141) d_K_count_1 (by rw [c19]; decide) (by rw [c19]; decide) (by rw [ab_tab_in (j := 3) c19 (by decide)]; rfl) (by decide) ?_
    refine ab_aload_n (i := 0) d_K_count_141 rfl rfl ?_
    refine ab_getR (ci := 10) (k := 6) (j := kx_forest) d_K_count_142 v_478 rfl (by decide) (by decide) rfl r_kx_6 ?_
    refine ab_getI (ci := 2) (k := 2) d_K_count_145 v_335 rfl (by decide) (by decide) rfl ?_
    exact ab_iret (ty := .int) d_K_count_148 rfl rfl h
  by_cases c20 : v1 = 4
  · have h := h.2.2.2.2.1 c20
    refine ab_tabIn (tgt := 149) d_K_count_1 (by rw [c20]; decide) (by rw [c20]; decide) (by rw [ab_tab_in (j := 4) c20 (by decide)]; rfl) (by decide) ?_
    refine ab_aload_n (i := 0) d_K_count_149 rfl rfl ?_
    refine ab_getR (ci := 10) (k := 6) (j := kx_forest) d_K_count_150 v_478 rfl (by decide) (by decide) rfl r_kx_6 ?_
    refine ab_getI (ci := 2) (k := 3) d_K_count_153 v_337 rfl (by decide) (by decide) rfl ?_
    exact ab_iret (ty := .int) d_K_count_156 rfl rfl h
  by_cases c21 : v1 = 5
  · have h := h.2.2.2.2.2.1 c21
    refine ab_tabIn (tgt := 157) d_K_count_1 (by rw [c21]; decide) (by rw [c21]; decide) (by rw [ab_tab_in (j := 5) c21 (by decide)]; rfl) (by decide) ?_
    refine ab_aload_n (i := 0) d_K_count_157 rfl rfl ?_
    refine ab_getR (ci := 10) (k := 6) (j := kx_forest) d_K_count_158 v_478 rfl (by decide) (by decide) rfl r_kx_6 ?_
    refine ab_getI (ci := 2) (k := 4) d_K_count_161 v_339 rfl (by decide) (by decide) rfl ?_
    exact ab_iret (ty := .int) d_K_count_164 rfl rfl h
  by_cases c22 : v1 = 6
  · have h := h.2.2.2.2.2.2.1 c22
    refine ab_tabIn (tgt := 165) d_K_count_1 (by rw [c22]; decide) (by rw [c22]; decide) (by rw [ab_tab_in (j := 6) c22 (by decide)]; rfl) (by decide) ?_
    refine ab_aload_n (i := 0) d_K_count_165 rfl rfl ?_
    refine ab_getR (ci := 10) (k := 3) (j := kx_now) d_K_count_166 v_475 rfl (by decide) (by decide) rfl r_kx_3 ?_
    refine ab_getR (ci := 6) (k := 1) (j := kx_now_swaps) d_K_count_169 v_296 rfl (by decide) (by decide) rfl r_kx_now_1 ?_
    obtain ⟨r1, hC, h⟩ := h
    refine ab_callV (me2 := mt_Swaps_shown) (b := kx_now_swaps) (as := []) (st := []) (rv := (some (.int r1))) (M2 := (I, L, ab_RR, n, nc, ns)) d_K_count_172 ce_Swaps_shown v_927 v_928 v_929 (by decide) rfl (Nat.le_of_ble_eq_true rfl) hC (Nat.le_refl _) (Nat.le_refl _) hc hs (fun j h9 => by cases h9) (fun _ _ => rfl) ?_
    show ab_E w (d + 1) mt_K_count 175 [.ref kx, .int v1] [.int r1] (I, L, ab_RR, n, nc, ns) res
    exact ab_iret (ty := .int) d_K_count_175 rfl rfl h
  by_cases c23 : v1 = 7
  · have h := h.2.2.2.2.2.2.2.1 c23
    refine ab_tabIn (tgt := 176) d_K_count_1 (by rw [c23]; decide) (by rw [c23]; decide) (by rw [ab_tab_in (j := 7) c23 (by decide)]; rfl) (by decide) ?_
    refine ab_aload_n (i := 0) d_K_count_176 rfl rfl ?_
    refine ab_getR (ci := 10) (k := 3) (j := kx_now) d_K_count_177 v_475 rfl (by decide) (by decide) rfl r_kx_3 ?_
    refine ab_getR (ci := 6) (k := 1) (j := kx_now_swaps) d_K_count_180 v_296 rfl (by decide) (by decide) rfl r_kx_now_1 ?_
    refine ab_getI (ci := 7) (k := 1) d_K_count_183 v_261 rfl (by decide) (by decide) rfl ?_
    exact ab_iret (ty := .int) d_K_count_186 rfl rfl h
  by_cases c24 : v1 = 8
  · have h := h.2.2.2.2.2.2.2.2.1 c24
    refine ab_tabIn (tgt := 187) d_K_count_1 (by rw [c24]; decide) (by rw [c24]; decide) (by rw [ab_tab_in (j := 8) c24 (by decide)]; rfl) (by decide) ?_
    refine ab_aload_n (i := 0) d_K_count_187 rfl rfl ?_
    obtain ⟨r2, hC, h⟩ := h
    refine ab_callV (me2 := mt_K_nextBest) (b := kx) (as := []) (st := []) (rv := (some (.int r2))) (M2 := (I, L, ab_RR, n, nc, ns)) d_K_count_188 ce_K_nextBest v_932 v_934 v_27 (by decide) rfl (Nat.le_of_ble_eq_true rfl) hC (Nat.le_refl _) (Nat.le_refl _) hc hs (fun j h9 => by cases h9) (fun _ _ => rfl) ?_
    show ab_E w (d + 1) mt_K_count 191 [.ref kx, .int v1] [.int r2] (I, L, ab_RR, n, nc, ns) res
    exact ab_iret (ty := .int) d_K_count_191 rfl rfl h
  by_cases c25 : v1 = 9
  · have h := h.2.2.2.2.2.2.2.2.2.1 c25
    refine ab_tabIn (tgt := 192) d_K_count_1 (by rw [c25]; decide) (by rw [c25]; decide) (by rw [ab_tab_in (j := 9) c25 (by decide)]; rfl) (by decide) ?_
    refine ab_aload_n (i := 0) d_K_count_192 rfl rfl ?_
    obtain ⟨r3, hC, h⟩ := h
    refine ab_callV (me2 := mt_K_hub) (b := kx) (as := []) (st := []) (rv := (some (.int r3))) (M2 := (I, L, ab_RR, n, nc, ns)) d_K_count_193 ce_K_hub v_952 v_954 v_31 (by decide) rfl (Nat.le_of_ble_eq_true rfl) hC (Nat.le_refl _) (Nat.le_refl _) hc hs (fun j h9 => by cases h9) (fun _ _ => rfl) ?_
    show ab_E w (d + 1) mt_K_count 196 [.ref kx, .int v1] [.int r3] (I, L, ab_RR, n, nc, ns) res
    exact ab_iret (ty := .int) d_K_count_196 rfl rfl h
  by_cases c26 : v1 = 10
  · have h := h.2.2.2.2.2.2.2.2.2.2.1 c26
    refine ab_tabIn (tgt := 197) d_K_count_1 (by rw [c26]; decide) (by rw [c26]; decide) (by rw [ab_tab_in (j := 10) c26 (by decide)]; rfl) (by decide) ?_
    refine ab_aload_n (i := 0) d_K_count_197 rfl rfl ?_
    refine ab_getR (ci := 10) (k := 7) (j := kx_ways) d_K_count_198 v_479 rfl (by decide) (by decide) rfl r_kx_7 ?_
    obtain ⟨r4, hC, h⟩ := h
    refine ab_callV (me2 := mt_Ways_longest) (b := kx_ways) (as := []) (st := []) (rv := (some (.int r4))) (M2 := (I, L, ab_RR, n, nc, ns)) d_K_count_201 ce_Ways_longest v_970 v_971 v_972 (by decide) rfl (Nat.le_of_ble_eq_true rfl) hC (Nat.le_refl _) (Nat.le_refl _) hc hs (fun j h9 => by cases h9) (fun _ _ => rfl) ?_
    show ab_E w (d + 1) mt_K_count 204 [.ref kx, .int v1] [.int r4] (I, L, ab_RR, n, nc, ns) res
    exact ab_iret (ty := .int) d_K_count_204 rfl rfl h
  by_cases c27 : v1 = 11
  · have h := h.2.2.2.2.2.2.2.2.2.2.2.1 c27
    refine ab_tabIn (tgt := 205) d_K_count_1 (by rw [c27]; decide) (by rw [c27]; decide) (by rw [ab_tab_in (j := 11) c27 (by decide)]; rfl) (by decide) ?_
    refine ab_aload_n (i := 0) d_K_count_205 rfl rfl ?_
    obtain ⟨r5, I6, hC, h⟩ := h
    refine ab_callV (me2 := mt_K_twins) (b := kx) (as := []) (st := []) (rv := (some (.int r5))) (M2 := (I6, L, ab_RR, n, nc, ns)) d_K_count_206 ce_K_twins v_979 v_981 v_33 (by decide) rfl (Nat.le_of_ble_eq_true rfl) hC (Nat.le_refl _) (Nat.le_refl _) hc hs (fun j h9 => by cases h9) (fun _ _ => rfl) ?_
    show ab_E w (d + 1) mt_K_count 209 [.ref kx, .int v1] [.int r5] (I6, L, ab_RR, n, nc, ns) res
    exact ab_iret (ty := .int) d_K_count_209 rfl rfl h
  by_cases c28 : v1 = 12
  · have h := h.2.2.2.2.2.2.2.2.2.2.2.2.1 c28
    refine ab_tabIn (tgt := 210) d_K_count_1 (by rw [c28]; decide) (by rw [c28]; decide) (by rw [ab_tab_in (j := 12) c28 (by decide)]; rfl) (by decide) ?_
    refine ab_aload_n (i := 0) d_K_count_210 rfl rfl ?_
    refine ab_getR (ci := 10) (k := 3) (j := kx_now) d_K_count_211 v_475 rfl (by decide) (by decide) rfl r_kx_3 ?_
    refine ab_getR (ci := 6) (k := 2) (j := kx_now_acts) d_K_count_214 v_298 rfl (by decide) (by decide) rfl r_kx_now_2 ?_
    refine ab_getI (ci := 0) (k := 5) d_K_count_217 v_279 rfl (by decide) (by decide) rfl ?_
    exact ab_iret (ty := .int) d_K_count_220 rfl rfl h
  by_cases c29 : v1 = 13
  · have h := h.2.2.2.2.2.2.2.2.2.2.2.2.2.1 c29
    refine ab_tabIn (tgt := 221) d_K_count_1 (by rw [c29]; decide) (by rw [c29]; decide) (by rw [ab_tab_in (j := 13) c29 (by decide)]; rfl) (by decide) ?_
    refine ab_aload_n (i := 0) d_K_count_221 rfl rfl ?_
    refine ab_getR (ci := 10) (k := 3) (j := kx_now) d_K_count_222 v_475 rfl (by decide) (by decide) rfl r_kx_3 ?_
    refine ab_getI (ci := 6) (k := 3) d_K_count_225 v_300 rfl (by decide) (by decide) rfl ?_
    exact ab_iret (ty := .int) d_K_count_228 rfl rfl h
  by_cases c30 : v1 = 14
  · have h := h.2.2.2.2.2.2.2.2.2.2.2.2.2.2.1 c30
    refine ab_tabIn (tgt := 229) d_K_count_1 (by rw [c30]; decide) (by rw [c30]; decide) (by rw [ab_tab_in (j := 14) c30 (by decide)]; rfl) (by decide) ?_
    refine ab_aload_n (i := 0) d_K_count_229 rfl rfl ?_
    refine ab_getI (ci := 10) (k := 1) d_K_count_230 v_473 rfl (by decide) (by decide) rfl ?_
    exact ab_iret (ty := .int) d_K_count_233 rfl rfl h
  by_cases c31 : v1 = 15
  · have h := h.2.2.2.2.2.2.2.2.2.2.2.2.2.2.2.1 c31
    refine ab_tabIn (tgt := 234) d_K_count_1 (by rw [c31]; decide) (by rw [c31]; decide) (by rw [ab_tab_in (j := 15) c31 (by decide)]; rfl) (by decide) ?_
    refine ab_aload_n (i := 0) d_K_count_234 rfl rfl ?_
    refine ab_getR (ci := 10) (k := 3) (j := kx_now) d_K_count_235 v_475 rfl (by decide) (by decide) rfl r_kx_3 ?_
    refine ab_getR (ci := 6) (k := 6) (j := kx_now_refused) d_K_count_238 v_306 rfl (by decide) (by decide) rfl r_kx_now_6 ?_
    refine ab_iconst (v := 0) d_K_count_241 rfl ?_
    refine ab_iald d_K_count_242 rfl rfl (by unfold vp_in; decide) ?_
    exact ab_iret (ty := .int) d_K_count_243 rfl rfl h
  by_cases c32 : v1 = 16
  · have h := h.2.2.2.2.2.2.2.2.2.2.2.2.2.2.2.2.1 c32
    refine ab_tabIn (tgt := 244) d_K_count_1 (by rw [c32]; decide) (by rw [c32]; decide) (by rw [ab_tab_in (j := 16) c32 (by decide)]; rfl) (by decide) ?_
    refine ab_aload_n (i := 0) d_K_count_244 rfl rfl ?_
    refine ab_getR (ci := 10) (k := 3) (j := kx_now) d_K_count_245 v_475 rfl (by decide) (by decide) rfl r_kx_3 ?_
    refine ab_getR (ci := 6) (k := 6) (j := kx_now_refused) d_K_count_248 v_306 rfl (by decide) (by decide) rfl r_kx_now_6 ?_
    refine ab_iconst (v := 1) d_K_count_251 rfl ?_
    refine ab_iald d_K_count_252 rfl rfl (by unfold vp_in; decide) ?_
    exact ab_iret (ty := .int) d_K_count_253 rfl rfl h
  by_cases c33 : v1 = 17
  · have h := h.2.2.2.2.2.2.2.2.2.2.2.2.2.2.2.2.2.1 c33
    refine ab_tabIn (tgt := 254) d_K_count_1 (by rw [c33]; decide) (by rw [c33]; decide) (by rw [ab_tab_in (j := 17) c33 (by decide)]; rfl) (by decide) ?_
    refine ab_aload_n (i := 0) d_K_count_254 rfl rfl ?_
    refine ab_getR (ci := 10) (k := 3) (j := kx_now) d_K_count_255 v_475 rfl (by decide) (by decide) rfl r_kx_3 ?_
    refine ab_getR (ci := 6) (k := 6) (j := kx_now_refused) d_K_count_258 v_306 rfl (by decide) (by decide) rfl r_kx_now_6 ?_
    refine ab_iconst (v := 2) d_K_count_261 rfl ?_
    refine ab_iald d_K_count_262 rfl rfl (by unfold vp_in; decide) ?_
    exact ab_iret (ty := .int) d_K_count_263 rfl rfl h
  by_cases c34 : v1 = 18
  · have h := h.2.2.2.2.2.2.2.2.2.2.2.2.2.2.2.2.2.2.1 c34
    refine ab_tabIn (tgt := 264) d_K_count_1 (by rw [c34]; decide) (by rw [c34]; decide) (by rw [ab_tab_in (j := 18) c34 (by decide)]; rfl) (by decide) ?_
    refine ab_aload_n (i := 0) d_K_count_264 rfl rfl ?_
    obtain ⟨r7, I8, hC, h⟩ := h
    refine ab_callV (me2 := mt_K_weakCouples) (b := kx) (as := []) (st := []) (rv := (some (.int r7))) (M2 := (I8, L, ab_RR, n, nc, ns)) d_K_count_265 ce_K_weakCouples v_984 v_986 v_34 (by decide) rfl (Nat.le_of_ble_eq_true rfl) hC (Nat.le_refl _) (Nat.le_refl _) hc hs (fun j h9 => by cases h9) (fun _ _ => rfl) ?_
    show ab_E w (d + 1) mt_K_count 268 [.ref kx, .int v1] [.int r7] (I8, L, ab_RR, n, nc, ns) res
    exact ab_iret (ty := .int) d_K_count_268 rfl rfl h
  by_cases c35 : v1 = 19
  · have h := h.2.2.2.2.2.2.2.2.2.2.2.2.2.2.2.2.2.2.2.1 c35
    refine ab_tabIn (tgt := 269) d_K_count_1 (by rw [c35]; decide) (by rw [c35]; decide) (by rw [ab_tab_in (j := 19) c35 (by decide)]; rfl) (by decide) ?_
    refine ab_aload_n (i := 0) d_K_count_269 rfl rfl ?_
    obtain ⟨r9, I10, hC, h⟩ := h
    refine ab_callV (me2 := mt_K_firstWeak) (b := kx) (as := []) (st := []) (rv := (some (.int r9))) (M2 := (I10, L, ab_RR, n, nc, ns)) d_K_count_270 ce_K_firstWeak v_1016 v_1018 v_39 (by decide) rfl (Nat.le_of_ble_eq_true rfl) hC (Nat.le_refl _) (Nat.le_refl _) hc hs (fun j h9 => by cases h9) (fun _ _ => rfl) ?_
    show ab_E w (d + 1) mt_K_count 273 [.ref kx, .int v1] [.int r9] (I10, L, ab_RR, n, nc, ns) res
    exact ab_iret (ty := .int) d_K_count_273 rfl rfl h
  by_cases c36 : v1 = 20
  · have h := h.2.2.2.2.2.2.2.2.2.2.2.2.2.2.2.2.2.2.2.2.1 c36
    refine ab_tabIn (tgt := 274) d_K_count_1 (by rw [c36]; decide) (by rw [c36]; decide) (by rw [ab_tab_in (j := 20) c36 (by decide)]; rfl) (by decide) ?_
    refine ab_aload_n (i := 0) d_K_count_274 rfl rfl ?_
    refine ab_getR (ci := 10) (k := 7) (j := kx_ways) d_K_count_275 v_479 rfl (by decide) (by decide) rfl r_kx_7 ?_
    obtain ⟨r11, hC, h⟩ := h
    refine ab_callV (me2 := mt_Ways_centre) (b := kx_ways) (as := []) (st := []) (rv := (some (.int r11))) (M2 := (I, L, ab_RR, n, nc, ns)) d_K_count_278 ce_Ways_centre v_1020 v_1021 v_1022 (by decide) rfl (Nat.le_of_ble_eq_true rfl) hC (Nat.le_refl _) (Nat.le_refl _) hc hs (fun j h9 => by cases h9) (fun _ _ => rfl) ?_
    show ab_E w (d + 1) mt_K_count 281 [.ref kx, .int v1] [.int r11] (I, L, ab_RR, n, nc, ns) res
    exact ab_iret (ty := .int) d_K_count_281 rfl rfl h
  by_cases c37 : v1 = 21
  · have h := h.2.2.2.2.2.2.2.2.2.2.2.2.2.2.2.2.2.2.2.2.2.1 c37
    refine ab_tabIn (tgt := 282) d_K_count_1 (by rw [c37]; decide) (by rw [c37]; decide) (by rw [ab_tab_in (j := 21) c37 (by decide)]; rfl) (by decide) ?_
    refine ab_aload_n (i := 0) d_K_count_282 rfl rfl ?_
    refine ab_getR (ci := 10) (k := 7) (j := kx_ways) d_K_count_283 v_479 rfl (by decide) (by decide) rfl r_kx_7 ?_
    refine ab_aload_n (i := 0) d_K_count_286 rfl rfl ?_
    refine ab_getR (ci := 10) (k := 7) (j := kx_ways) d_K_count_287 v_479 rfl (by decide) (by decide) rfl r_kx_7 ?_
    obtain ⟨r12, hC, h⟩ := h
    refine ab_callV (me2 := mt_Ways_centre) (b := kx_ways) (as := []) (st := [.ref kx_ways]) (rv := (some (.int r12))) (M2 := (I, L, ab_RR, n, nc, ns)) d_K_count_290 ce_Ways_centre v_1020 v_1021 v_1022 (by decide) rfl (Nat.le_of_ble_eq_true rfl) hC (Nat.le_refl _) (Nat.le_refl _) hc hs (fun j h9 => by cases h9) (fun _ _ => rfl) ?_
    show ab_E w (d + 1) mt_K_count 293 [.ref kx, .int v1] [.int r12, .ref kx_ways] (I, L, ab_RR, n, nc, ns) res
    obtain ⟨r13, hC, h⟩ := h
    refine ab_callV (me2 := mt_Ways_farthest) (b := kx_ways) (as := [.int r12]) (st := []) (rv := (some (.int r13))) (M2 := (I, L, ab_RR, n, nc, ns)) d_K_count_293 ce_Ways_farthest v_1024 v_975 v_976 (by decide) rfl (Nat.le_of_ble_eq_true rfl) hC (Nat.le_refl _) (Nat.le_refl _) hc hs (fun j h9 => by cases h9) (fun _ _ => rfl) ?_
    show ab_E w (d + 1) mt_K_count 296 [.ref kx, .int v1] [.int r13] (I, L, ab_RR, n, nc, ns) res
    exact ab_iret (ty := .int) d_K_count_296 rfl rfl h
  by_cases c38 : v1 = 22
  · have h := h.2.2.2.2.2.2.2.2.2.2.2.2.2.2.2.2.2.2.2.2.2.2.1 c38
    refine ab_tabIn (tgt := 297) d_K_count_1 (by rw [c38]; decide) (by rw [c38]; decide) (by rw [ab_tab_in (j := 22) c38 (by decide)]; rfl) (by decide) ?_
    refine ab_aload_n (i := 0) d_K_count_297 rfl rfl ?_
    obtain ⟨r14, I15, hC, h⟩ := h
    refine ab_callV (me2 := mt_K_detours) (b := kx) (as := []) (st := []) (rv := (some (.int r14))) (M2 := (I15, L, ab_RR, n, nc, ns)) d_K_count_298 ce_K_detours v_1025 v_1027 v_40 (by decide) rfl (Nat.le_of_ble_eq_true rfl) hC (Nat.le_refl _) (Nat.le_refl _) hc hs (fun j h9 => by cases h9) (fun _ _ => rfl) ?_
    show ab_E w (d + 1) mt_K_count 301 [.ref kx, .int v1] [.int r14] (I15, L, ab_RR, n, nc, ns) res
    exact ab_iret (ty := .int) d_K_count_301 rfl rfl h
  have hr : v1.toInt < 0 ∨ 22 < v1.toInt := by
    rcases Int.lt_or_le v1.toInt 0 with h9 | h9
    · exact Or.inl h9
    · refine Or.inr (Int.not_le.mp fun h8 => ?_)
      exact ab_tab_out (lo := 0) (hi := 22) (k := 23) h9 h8 (by decide) (by
        intro j hj
        match j, hj with
        | 0, _ => exact c16
        | 1, _ => exact c17
        | 2, _ => exact c18
        | 3, _ => exact c19
        | 4, _ => exact c20
        | 5, _ => exact c21
        | 6, _ => exact c22
        | 7, _ => exact c23
        | 8, _ => exact c24
        | 9, _ => exact c25
        | 10, _ => exact c26
        | 11, _ => exact c27
        | 12, _ => exact c28
        | 13, _ => exact c29
        | 14, _ => exact c30
        | 15, _ => exact c31
        | 16, _ => exact c32
        | 17, _ => exact c33
        | 18, _ => exact c34
        | 19, _ => exact c35
        | 20, _ => exact c36
        | 21, _ => exact c37
        | 22, _ => exact c38
        | j9 + 23, hj => exact absurd hj (by omega))
  have h := h.2.2.2.2.2.2.2.2.2.2.2.2.2.2.2.2.2.2.2.2.2.2.2 hr
  refine ab_tabOut (tgt := 302) d_K_count_1 hr (by decide) ?_
  exact ab_throw (E := "java/util/NoSuchElementException") d_K_count_302 d_K_count_305 d_K_count_306 d_K_count_309 (by decide +kernel) rfl v_1049 v_163 x3_K_185 x4_K_185 h8 (Nat.le_of_ble_eq_true rfl) h
theorem d_K_cable_0 : decode (ab_bc mt_K_cable) 0 = .ok (.aload_n 0, 1) := by decide +kernel
theorem d_K_cable_1 : decode (ab_bc mt_K_cable) 1 = .ok (.iload_n 1, 1) := by decide +kernel
theorem d_K_cable_2 : decode (ab_bc mt_K_cable) 2 = .ok (.invokevirtual 186, 3) := by decide +kernel
theorem d_K_cable_5 : decode (ab_bc mt_K_cable) 5 = .ok (.aload_n 0, 1) := by decide +kernel
theorem d_K_cable_6 : decode (ab_bc mt_K_cable) 6 = .ok (.getfield 23, 3) := by decide +kernel
theorem d_K_cable_9 : decode (ab_bc mt_K_cable) 9 = .ok (.getfield 110, 3) := by decide +kernel
theorem d_K_cable_12 : decode (ab_bc mt_K_cable) 12 = .ok (.astore_n 3, 1) := by decide +kernel
theorem d_K_cable_13 : decode (ab_bc mt_K_cable) 13 = .ok (.iload_n 2, 1) := by decide +kernel
theorem d_K_cable_14 : decode (ab_bc mt_K_cable) 14 = .ok (.tableswitch 154 0 11 #[62, 69, 76, 83, 90, 104, 118, 124, 130, 136, 142, 148], 62) := by decide +kernel
theorem d_K_cable_76 : decode (ab_bc mt_K_cable) 76 = .ok (.aload_n 3, 1) := by decide +kernel
theorem d_K_cable_77 : decode (ab_bc mt_K_cable) 77 = .ok (.getfield 189, 3) := by decide +kernel
theorem d_K_cable_80 : decode (ab_bc mt_K_cable) 80 = .ok (.iload_n 1, 1) := by decide +kernel
theorem d_K_cable_81 : decode (ab_bc mt_K_cable) 81 = .ok (.iaload, 1) := by decide +kernel
theorem d_K_cable_82 : decode (ab_bc mt_K_cable) 82 = .ok (.ireturn, 1) := by decide +kernel
theorem d_K_cable_83 : decode (ab_bc mt_K_cable) 83 = .ok (.aload_n 3, 1) := by decide +kernel
theorem d_K_cable_84 : decode (ab_bc mt_K_cable) 84 = .ok (.getfield 192, 3) := by decide +kernel
theorem d_K_cable_87 : decode (ab_bc mt_K_cable) 87 = .ok (.iload_n 1, 1) := by decide +kernel
theorem d_K_cable_88 : decode (ab_bc mt_K_cable) 88 = .ok (.iaload, 1) := by decide +kernel
theorem d_K_cable_89 : decode (ab_bc mt_K_cable) 89 = .ok (.ireturn, 1) := by decide +kernel
theorem d_K_cable_90 : decode (ab_bc mt_K_cable) 90 = .ok (.aload_n 3, 1) := by decide +kernel
theorem d_K_cable_91 : decode (ab_bc mt_K_cable) 91 = .ok (.getfield 195, 3) := by decide +kernel
theorem d_K_cable_94 : decode (ab_bc mt_K_cable) 94 = .ok (.iload_n 1, 1) := by decide +kernel
theorem d_K_cable_95 : decode (ab_bc mt_K_cable) 95 = .ok (.iaload, 1) := by decide +kernel
theorem d_K_cable_96 : decode (ab_bc mt_K_cable) 96 = .ok (.ireturn, 1) := by decide +kernel
theorem d_K_cable_97 : decode (ab_bc mt_K_cable) 97 = .ok (.aload_n 3, 1) := by decide +kernel
theorem d_K_cable_98 : decode (ab_bc mt_K_cable) 98 = .ok (.getfield 198, 3) := by decide +kernel
theorem d_K_cable_101 : decode (ab_bc mt_K_cable) 101 = .ok (.iload_n 1, 1) := by decide +kernel
theorem d_K_cable_102 : decode (ab_bc mt_K_cable) 102 = .ok (.iaload, 1) := by decide +kernel
theorem d_K_cable_103 : decode (ab_bc mt_K_cable) 103 = .ok (.ireturn, 1) := by decide +kernel
theorem d_K_cable_104 : decode (ab_bc mt_K_cable) 104 = .ok (.aload_n 3, 1) := by decide +kernel
theorem d_K_cable_105 : decode (ab_bc mt_K_cable) 105 = .ok (.iload_n 1, 1) := by decide +kernel
theorem d_K_cable_106 : decode (ab_bc mt_K_cable) 106 = .ok (.invokevirtual 201, 3) := by decide +kernel
theorem d_K_cable_109 : decode (ab_bc mt_K_cable) 109 = .ok (.ifCond .eq 7, 3) := by decide +kernel
theorem d_K_cable_112 : decode (ab_bc mt_K_cable) 112 = .ok (.iconst 1, 1) := by decide +kernel
theorem d_K_cable_113 : decode (ab_bc mt_K_cable) 113 = .ok (.goto 4, 3) := by decide +kernel
theorem d_K_cable_116 : decode (ab_bc mt_K_cable) 116 = .ok (.iconst 0, 1) := by decide +kernel
theorem d_K_cable_117 : decode (ab_bc mt_K_cable) 117 = .ok (.ireturn, 1) := by decide +kernel
theorem d_K_cable_118 : decode (ab_bc mt_K_cable) 118 = .ok (.aload_n 0, 1) := by decide +kernel
theorem d_K_cable_119 : decode (ab_bc mt_K_cable) 119 = .ok (.iload_n 1, 1) := by decide +kernel
theorem d_K_cable_120 : decode (ab_bc mt_K_cable) 120 = .ok (.invokevirtual 205, 3) := by decide +kernel
theorem d_K_cable_123 : decode (ab_bc mt_K_cable) 123 = .ok (.ifCond .eq 7, 3) := by decide +kernel
theorem d_K_cable_126 : decode (ab_bc mt_K_cable) 126 = .ok (.iconst 1, 1) := by decide +kernel
theorem d_K_cable_127 : decode (ab_bc mt_K_cable) 127 = .ok (.goto 4, 3) := by decide +kernel
theorem d_K_cable_130 : decode (ab_bc mt_K_cable) 130 = .ok (.iconst 0, 1) := by decide +kernel
theorem d_K_cable_131 : decode (ab_bc mt_K_cable) 131 = .ok (.ireturn, 1) := by decide +kernel
theorem d_K_cable_132 : decode (ab_bc mt_K_cable) 132 = .ok (.aload_n 0, 1) := by decide +kernel
theorem d_K_cable_133 : decode (ab_bc mt_K_cable) 133 = .ok (.iload_n 1, 1) := by decide +kernel
theorem d_K_cable_134 : decode (ab_bc mt_K_cable) 134 = .ok (.invokevirtual 208, 3) := by decide +kernel
theorem d_K_cable_137 : decode (ab_bc mt_K_cable) 137 = .ok (.ireturn, 1) := by decide +kernel
theorem d_K_cable_138 : decode (ab_bc mt_K_cable) 138 = .ok (.aload_n 0, 1) := by decide +kernel
theorem d_K_cable_139 : decode (ab_bc mt_K_cable) 139 = .ok (.iload_n 1, 1) := by decide +kernel
theorem d_K_cable_140 : decode (ab_bc mt_K_cable) 140 = .ok (.invokevirtual 211, 3) := by decide +kernel
theorem d_K_cable_143 : decode (ab_bc mt_K_cable) 143 = .ok (.ireturn, 1) := by decide +kernel
theorem d_K_cable_144 : decode (ab_bc mt_K_cable) 144 = .ok (.aload_n 0, 1) := by decide +kernel
theorem d_K_cable_145 : decode (ab_bc mt_K_cable) 145 = .ok (.iload_n 1, 1) := by decide +kernel
theorem d_K_cable_146 : decode (ab_bc mt_K_cable) 146 = .ok (.invokevirtual 214, 3) := by decide +kernel
theorem d_K_cable_149 : decode (ab_bc mt_K_cable) 149 = .ok (.ireturn, 1) := by decide +kernel
theorem d_K_cable_150 : decode (ab_bc mt_K_cable) 150 = .ok (.aload_n 0, 1) := by decide +kernel
theorem d_K_cable_151 : decode (ab_bc mt_K_cable) 151 = .ok (.iload_n 1, 1) := by decide +kernel
theorem d_K_cable_152 : decode (ab_bc mt_K_cable) 152 = .ok (.invokevirtual 217, 3) := by decide +kernel
theorem d_K_cable_155 : decode (ab_bc mt_K_cable) 155 = .ok (.ireturn, 1) := by decide +kernel
theorem d_K_cable_156 : decode (ab_bc mt_K_cable) 156 = .ok (.aload_n 0, 1) := by decide +kernel
theorem d_K_cable_157 : decode (ab_bc mt_K_cable) 157 = .ok (.iload_n 1, 1) := by decide +kernel
theorem d_K_cable_158 : decode (ab_bc mt_K_cable) 158 = .ok (.invokevirtual 220, 3) := by decide +kernel
theorem d_K_cable_161 : decode (ab_bc mt_K_cable) 161 = .ok (.ireturn, 1) := by decide +kernel
theorem d_K_cable_162 : decode (ab_bc mt_K_cable) 162 = .ok (.aload_n 0, 1) := by decide +kernel
theorem d_K_cable_163 : decode (ab_bc mt_K_cable) 163 = .ok (.iload_n 1, 1) := by decide +kernel
theorem d_K_cable_164 : decode (ab_bc mt_K_cable) 164 = .ok (.invokevirtual 223, 3) := by decide +kernel
theorem d_K_cable_167 : decode (ab_bc mt_K_cable) 167 = .ok (.ireturn, 1) := by decide +kernel
theorem d_K_cable_168 : decode (ab_bc mt_K_cable) 168 = .ok (.new 183, 3) := by decide +kernel
theorem d_K_cable_171 : decode (ab_bc mt_K_cable) 171 = .ok (.dup, 1) := by decide +kernel
theorem d_K_cable_172 : decode (ab_bc mt_K_cable) 172 = .ok (.invokespecial 185, 3) := by decide +kernel
theorem d_K_cable_175 : decode (ab_bc mt_K_cable) 175 = .ok (.athrow, 1) := by decide +kernel
-- CableKeeper.cable(II)I over kx
theorem q_K_cable_0 {w : ab_Wd} {d n nc ns : Nat} {I : Nat → Nat → Int32} {L : Nat → Nat → Int64} {res : ab_Re} (v1 : Int32) (v2 : Int32) (h8 : 8 ≤ (d + 1)) (hc : nc ≤ res.2.2.2.2.2.1) (hs : ns ≤ res.2.2.2.2.2.2)
    (h : ((ab_C w d mt_K_needCable [.ref kx, .int v1] (I, L, ab_RR, n, nc, ns) (.inl none, (I, L, ab_RR, n, nc, ns)) ∧ ((v2 = 0 → ((vp_in v1 24) ∧ res = (.inl (some (.int (I kx_now_cables_first v1.toNatClampNeg))), (I, L, ab_RR, n, nc, ns)))) ∧ (v2 = 1 → ((vp_in v1 24) ∧ res = (.inl (some (.int (I kx_now_cables_second v1.toNatClampNeg))), (I, L, ab_RR, n, nc, ns)))) ∧ (v2 = 2 → ((vp_in v1 24) ∧ res = (.inl (some (.int (I kx_now_cables_price v1.toNatClampNeg))), (I, L, ab_RR, n, nc, ns)))) ∧ (v2 = 3 → ((vp_in v1 24) ∧ res = (.inl (some (.int (I kx_now_cables_firm v1.toNatClampNeg))), (I, L, ab_RR, n, nc, ns)))) ∧ (v2 = 4 → (∃ (r6 : Int32), ab_C w d mt_Cables_isSound [.ref kx_now_cables, .int v1] (I, L, ab_RR, n, nc, ns) (.inl (some (.int r6)), (I, L, ab_RR, n, nc, ns)) ∧ ((r6 = 0 → (ab_E w (d + 1) mt_K_cable 117 [.ref kx, .int v1, .int v2, .ref kx_now_cables] [.int 0] (I, L, ab_RR, n, nc, ns) res)) ∧ (¬ r6 = 0 → (ab_E w (d + 1) mt_K_cable 117 [.ref kx, .int v1, .int v2, .ref kx_now_cables] [.int 1] (I, L, ab_RR, n, nc, ns) res))))) ∧ (v2 = 5 → (∃ (r8 : Int32), ab_C w d mt_K_isInside [.ref kx, .int v1] (I, L, ab_RR, n, nc, ns) (.inl (some (.int r8)), (I, L, ab_RR, n, nc, ns)) ∧ ((r8 = 0 → (ab_E w (d + 1) mt_K_cable 131 [.ref kx, .int v1, .int v2, .ref kx_now_cables] [.int 0] (I, L, ab_RR, n, nc, ns) res)) ∧ (¬ r8 = 0 → (ab_E w (d + 1) mt_K_cable 131 [.ref kx, .int v1, .int v2, .ref kx_now_cables] [.int 1] (I, L, ab_RR, n, nc, ns) res))))) ∧ (v2 = 6 → (∃ (r10 : Int32), ab_C w d mt_K_ringSize [.ref kx, .int v1] (I, L, ab_RR, n, nc, ns) (.inl (some (.int r10)), (I, L, ab_RR, n, nc, ns)) ∧ res = (.inl (some (.int r10)), (I, L, ab_RR, n, nc, ns)))) ∧ (v2 = 7 → (∃ (r11 : Int32), ab_C w d mt_K_dearestOf [.ref kx, .int v1] (I, L, ab_RR, n, nc, ns) (.inl (some (.int r11)), (I, L, ab_RR, n, nc, ns)) ∧ res = (.inl (some (.int r11)), (I, L, ab_RR, n, nc, ns)))) ∧ (v2 = 8 → (∃ (r12 : Int32), ab_C w d mt_K_cutOf [.ref kx, .int v1] (I, L, ab_RR, n, nc, ns) (.inl (some (.int r12)), (I, L, ab_RR, n, nc, ns)) ∧ res = (.inl (some (.int r12)), (I, L, ab_RR, n, nc, ns)))) ∧ (v2 = 9 → (∃ (r13 : Int32), ab_C w d mt_K_rivalOf [.ref kx, .int v1] (I, L, ab_RR, n, nc, ns) (.inl (some (.int r13)), (I, L, ab_RR, n, nc, ns)) ∧ res = (.inl (some (.int r13)), (I, L, ab_RR, n, nc, ns)))) ∧ (v2 = 10 → (∃ (r14 : Int32), ab_C w d mt_K_barOf [.ref kx, .int v1] (I, L, ab_RR, n, nc, ns) (.inl (some (.int r14)), (I, L, ab_RR, n, nc, ns)) ∧ res = (.inl (some (.int r14)), (I, L, ab_RR, n, nc, ns)))) ∧ (v2 = 11 → (∃ (r15 : Int32), ab_C w d mt_K_lossOf [.ref kx, .int v1] (I, L, ab_RR, n, nc, ns) (.inl (some (.int r15)), (I, L, ab_RR, n, nc, ns)) ∧ res = (.inl (some (.int r15)), (I, L, ab_RR, n, nc, ns)))) ∧ ((v2.toInt < 0 ∨ 11 < v2.toInt) → (res = (.inr "java/util/NoSuchElementException", (I, L, ab_RR, n, nc + 1, ns + 6)))))) ∨ (∃ E : String, ab_C w d mt_K_needCable [.ref kx, .int v1] (I, L, ab_RR, n, nc, ns) (.inr E, (I, L, ab_RR, n, nc + 1, ns + 6)) ∧ res = (.inr E, (I, L, ab_RR, n, nc + 1, ns + 6))))) : ab_E w (d + 1) mt_K_cable 0 [.ref kx, .int v1, .int v2, .null] [] (I, L, ab_RR, n, nc, ns) res := by
  refine ab_aload_n (i := 0) d_K_cable_0 rfl rfl ?_
  refine ab_iload_n (i := 1) d_K_cable_1 rfl rfl ?_
  rcases h with ⟨hC, h⟩ | ⟨E9, hC, h⟩
  · refine ab_callV (me2 := mt_K_needCable) (b := kx) (as := [.int v1]) (st := []) (rv := none) (M2 := (I, L, ab_RR, n, nc, ns)) d_K_cable_2 ce_K_needCable v_1071 v_1073 v_43 (by decide) rfl (Nat.le_of_ble_eq_true rfl) hC (Nat.le_refl _) (Nat.le_refl _) hc hs (fun j h9 => by cases h9) (fun _ _ => rfl) ?_
    show ab_E w (d + 1) mt_K_cable 5 [.ref kx, .int v1, .int v2, .null] [] (I, L, ab_RR, n, nc, ns) res
    refine ab_aload_n (i := 0) d_K_cable_5 rfl rfl ?_
    refine ab_getR (ci := 10) (k := 3) (j := kx_now) d_K_cable_6 v_475 rfl (by decide) (by decide) rfl r_kx_3 ?_
    refine ab_getR (ci := 6) (k := 0) (j := kx_now_cables) d_K_cable_9 v_294 rfl (by decide) (by decide) rfl r_kx_now_0 ?_
    refine ab_astore_n (i := 3) d_K_cable_12 rfl (by decide) (Or.inr rfl) ?_
    refine ab_iload_n (i := 2) d_K_cable_13 rfl rfl ?_
    by_cases c16 : v2 = 0
    · have h := h.1 c16
      refine ab_tabIn (tgt := 76) d_K_cable_14 (by rw [c16]; decide) (by rw [c16]; decide) (by rw [ab_tab_in (j := 0) c16 (by decide)]; rfl) (by decide) ?_
      refine ab_aload_n (i := 3) d_K_cable_76 rfl rfl ?_
      refine ab_getR (ci := 1) (k := 3) (j := kx_now_cables_first) d_K_cable_77 v_209 rfl (by decide) (by decide) rfl r_kx_now_cables_3 ?_
      refine ab_iload_n (i := 1) d_K_cable_80 rfl rfl ?_
      have g2 := h.1; have h := h.2
      refine ab_iald d_K_cable_81 rfl rfl g2 ?_
      exact ab_iret (ty := .int) d_K_cable_82 rfl rfl h
    by_cases c17 : v2 = 1
    · have h := h.2.1 c17
      refine ab_tabIn (tgt := 83) d_K_cable_14 (by rw [c17]; decide) (by rw [c17]; decide) (by rw [ab_tab_in (j := 1) c17 (by decide)]; rfl) (by decide) ?_
      refine ab_aload_n (i := 3) d_K_cable_83 rfl rfl ?_
      refine ab_getR (ci := 1) (k := 4) (j := kx_now_cables_second) d_K_cable_84 v_216 rfl (by decide) (by decide) rfl r_kx_now_cables_4 ?_
      refine ab_iload_n (i := 1) d_K_cable_87 rfl rfl ?_
      have g3 := h.1; have h := h.2
      refine ab_iald d_K_cable_88 rfl rfl g3 ?_
      exact ab_iret (ty := .int) d_K_cable_89 rfl rfl h
    by_cases c18 : v2 = 2
    · have h := h.2.2.1 c18
      refine ab_tabIn (tgt := 90) d_K_cable_14 (by rw [c18]; decide) (by rw [c18]; decide) (by rw [ab_tab_in (j := 2) c18 (by decide)]; rfl) (by decide) ?_
      refine ab_aload_n (i := 3) d_K_cable_90 rfl rfl ?_
      refine ab_getR (ci := 1) (k := 5) (j := kx_now_cables_price) d_K_cable_91 v_224 rfl (by decide) (by decide) rfl r_kx_now_cables_5 ?_
      refine ab_iload_n (i := 1) d_K_cable_94 rfl rfl ?_
      have g4 := h.1; have h := h.2
      refine ab_iald d_K_cable_95 rfl rfl g4 ?_
      exact ab_iret (ty := .int) d_K_cable_96 rfl rfl h
    by_cases c19 : v2 = 3
    · have h := h.2.2.2.1 c19
      refine ab_tabIn (tgt := 97) d_K_cable_14 (by rw [c19]; decide) (by rw [c19]; decide) (by rw [ab_tab_in (j := 3) c19 (by decide)]; rfl) (by decide) ?_
      refine ab_aload_n (i := 3) d_K_cable_97 rfl rfl ?_
      refine ab_getR (ci := 1) (k := 6) (j := kx_now_cables_firm) d_K_cable_98 v_228 rfl (by decide) (by decide) rfl r_kx_now_cables_6 ?_
      refine ab_iload_n (i := 1) d_K_cable_101 rfl rfl ?_
      have g5 := h.1; have h := h.2
      refine ab_iald d_K_cable_102 rfl rfl g5 ?_
      exact ab_iret (ty := .int) d_K_cable_103 rfl rfl h
    by_cases c20 : v2 = 4
    · have h := h.2.2.2.2.1 c20
      refine ab_tabIn (tgt := 104) d_K_cable_14 (by rw [c20]; decide) (by rw [c20]; decide) (by rw [ab_tab_in (j := 4) c20 (by decide)]; rfl) (by decide) ?_
      refine ab_aload_n (i := 3) d_K_cable_104 rfl rfl ?_
      refine ab_iload_n (i := 1) d_K_cable_105 rfl rfl ?_
      obtain ⟨r6, hC, h⟩ := h
      refine ab_callV (me2 := mt_Cables_isSound) (b := kx_now_cables) (as := [.int v1]) (st := []) (rv := (some (.int r6))) (M2 := (I, L, ab_RR, n, nc, ns)) d_K_cable_106 ce_Cables_isSound v_624 v_540 v_541 (by decide) rfl (Nat.le_of_ble_eq_true rfl) hC (Nat.le_refl _) (Nat.le_refl _) hc hs (fun j h9 => by cases h9) (fun _ _ => rfl) ?_
      show ab_E w (d + 1) mt_K_cable 109 [.ref kx, .int v1, .int v2, .ref kx_now_cables] [.int r6] (I, L, ab_RR, n, nc, ns) res
      refine ab_if_eq (tgt := 116) d_K_cable_109 (by decide) (fun c7 => ?_) (fun c7 => ?_)
      · have h := h.1 c7
        refine ab_iconst (v := 0) d_K_cable_116 rfl ?_
        exact h
      · have h := h.2 c7
        refine ab_iconst (v := 1) d_K_cable_112 rfl ?_
        refine ab_goto (tgt := 117) d_K_cable_113 (by decide) ?_
        exact h
    by_cases c21 : v2 = 5
    · have h := h.2.2.2.2.2.1 c21
      refine ab_tabIn (tgt := 118) d_K_cable_14 (by rw [c21]; decide) (by rw [c21]; decide) (by rw [ab_tab_in (j := 5) c21 (by decide)]; rfl) (by decide) ?_
      refine ab_aload_n (i := 0) d_K_cable_118 rfl rfl ?_
      refine ab_iload_n (i := 1) d_K_cable_119 rfl rfl ?_
      obtain ⟨r8, hC, h⟩ := h
      refine ab_callV (me2 := mt_K_isInside) (b := kx) (as := [.int v1]) (st := []) (rv := (some (.int r8))) (M2 := (I, L, ab_RR, n, nc, ns)) d_K_cable_120 ce_K_isInside v_944 v_946 v_30 (by decide) rfl (Nat.le_of_ble_eq_true rfl) hC (Nat.le_refl _) (Nat.le_refl _) hc hs (fun j h9 => by cases h9) (fun _ _ => rfl) ?_
      show ab_E w (d + 1) mt_K_cable 123 [.ref kx, .int v1, .int v2, .ref kx_now_cables] [.int r8] (I, L, ab_RR, n, nc, ns) res
      refine ab_if_eq (tgt := 130) d_K_cable_123 (by decide) (fun c9 => ?_) (fun c9 => ?_)
      · have h := h.1 c9
        refine ab_iconst (v := 0) d_K_cable_130 rfl ?_
        exact h
      · have h := h.2 c9
        refine ab_iconst (v := 1) d_K_cable_126 rfl ?_
        refine ab_goto (tgt := 131) d_K_cable_127 (by decide) ?_
        exact h
    by_cases c22 : v2 = 6
    · have h := h.2.2.2.2.2.2.1 c22
      refine ab_tabIn (tgt := 132) d_K_cable_14 (by rw [c22]; decide) (by rw [c22]; decide) (by rw [ab_tab_in (j := 6) c22 (by decide)]; rfl) (by decide) ?_
      refine ab_aload_n (i := 0) d_K_cable_132 rfl rfl ?_
      refine ab_iload_n (i := 1) d_K_cable_133 rfl rfl ?_
      obtain ⟨r10, hC, h⟩ := h
      refine ab_callV (me2 := mt_K_ringSize) (b := kx) (as := [.int v1]) (st := []) (rv := (some (.int r10))) (M2 := (I, L, ab_RR, n, nc, ns)) d_K_cable_134 ce_K_ringSize v_1075 v_1077 v_44 (by decide) rfl (Nat.le_of_ble_eq_true rfl) hC (Nat.le_refl _) (Nat.le_refl _) hc hs (fun j h9 => by cases h9) (fun _ _ => rfl) ?_
      show ab_E w (d + 1) mt_K_cable 137 [.ref kx, .int v1, .int v2, .ref kx_now_cables] [.int r10] (I, L, ab_RR, n, nc, ns) res
      exact ab_iret (ty := .int) d_K_cable_137 rfl rfl h
    by_cases c23 : v2 = 7
    · have h := h.2.2.2.2.2.2.2.1 c23
      refine ab_tabIn (tgt := 138) d_K_cable_14 (by rw [c23]; decide) (by rw [c23]; decide) (by rw [ab_tab_in (j := 7) c23 (by decide)]; rfl) (by decide) ?_
      refine ab_aload_n (i := 0) d_K_cable_138 rfl rfl ?_
      refine ab_iload_n (i := 1) d_K_cable_139 rfl rfl ?_
      obtain ⟨r11, hC, h⟩ := h
      refine ab_callV (me2 := mt_K_dearestOf) (b := kx) (as := [.int v1]) (st := []) (rv := (some (.int r11))) (M2 := (I, L, ab_RR, n, nc, ns)) d_K_cable_140 ce_K_dearestOf v_936 v_938 v_28 (by decide) rfl (Nat.le_of_ble_eq_true rfl) hC (Nat.le_refl _) (Nat.le_refl _) hc hs (fun j h9 => by cases h9) (fun _ _ => rfl) ?_
      show ab_E w (d + 1) mt_K_cable 143 [.ref kx, .int v1, .int v2, .ref kx_now_cables] [.int r11] (I, L, ab_RR, n, nc, ns) res
      exact ab_iret (ty := .int) d_K_cable_143 rfl rfl h
    by_cases c24 : v2 = 8
    · have h := h.2.2.2.2.2.2.2.2.1 c24
      refine ab_tabIn (tgt := 144) d_K_cable_14 (by rw [c24]; decide) (by rw [c24]; decide) (by rw [ab_tab_in (j := 8) c24 (by decide)]; rfl) (by decide) ?_
      refine ab_aload_n (i := 0) d_K_cable_144 rfl rfl ?_
      refine ab_iload_n (i := 1) d_K_cable_145 rfl rfl ?_
      obtain ⟨r12, hC, h⟩ := h
      refine ab_callV (me2 := mt_K_cutOf) (b := kx) (as := [.int v1]) (st := []) (rv := (some (.int r12))) (M2 := (I, L, ab_RR, n, nc, ns)) d_K_cable_146 ce_K_cutOf v_996 v_998 v_37 (by decide) rfl (Nat.le_of_ble_eq_true rfl) hC (Nat.le_refl _) (Nat.le_refl _) hc hs (fun j h9 => by cases h9) (fun _ _ => rfl) ?_
      show ab_E w (d + 1) mt_K_cable 149 [.ref kx, .int v1, .int v2, .ref kx_now_cables] [.int r12] (I, L, ab_RR, n, nc, ns) res
      exact ab_iret (ty := .int) d_K_cable_149 rfl rfl h
    by_cases c25 : v2 = 9
    · have h := h.2.2.2.2.2.2.2.2.2.1 c25
      refine ab_tabIn (tgt := 150) d_K_cable_14 (by rw [c25]; decide) (by rw [c25]; decide) (by rw [ab_tab_in (j := 9) c25 (by decide)]; rfl) (by decide) ?_
      refine ab_aload_n (i := 0) d_K_cable_150 rfl rfl ?_
      refine ab_iload_n (i := 1) d_K_cable_151 rfl rfl ?_
      obtain ⟨r13, hC, h⟩ := h
      refine ab_callV (me2 := mt_K_rivalOf) (b := kx) (as := [.int v1]) (st := []) (rv := (some (.int r13))) (M2 := (I, L, ab_RR, n, nc, ns)) d_K_cable_152 ce_K_rivalOf v_1083 v_1085 v_45 (by decide) rfl (Nat.le_of_ble_eq_true rfl) hC (Nat.le_refl _) (Nat.le_refl _) hc hs (fun j h9 => by cases h9) (fun _ _ => rfl) ?_
      show ab_E w (d + 1) mt_K_cable 155 [.ref kx, .int v1, .int v2, .ref kx_now_cables] [.int r13] (I, L, ab_RR, n, nc, ns) res
      exact ab_iret (ty := .int) d_K_cable_155 rfl rfl h
    by_cases c26 : v2 = 10
    · have h := h.2.2.2.2.2.2.2.2.2.2.1 c26
      refine ab_tabIn (tgt := 156) d_K_cable_14 (by rw [c26]; decide) (by rw [c26]; decide) (by rw [ab_tab_in (j := 10) c26 (by decide)]; rfl) (by decide) ?_
      refine ab_aload_n (i := 0) d_K_cable_156 rfl rfl ?_
      refine ab_iload_n (i := 1) d_K_cable_157 rfl rfl ?_
      obtain ⟨r14, hC, h⟩ := h
      refine ab_callV (me2 := mt_K_barOf) (b := kx) (as := [.int v1]) (st := []) (rv := (some (.int r14))) (M2 := (I, L, ab_RR, n, nc, ns)) d_K_cable_158 ce_K_barOf v_1087 v_1089 v_46 (by decide) rfl (Nat.le_of_ble_eq_true rfl) hC (Nat.le_refl _) (Nat.le_refl _) hc hs (fun j h9 => by cases h9) (fun _ _ => rfl) ?_
      show ab_E w (d + 1) mt_K_cable 161 [.ref kx, .int v1, .int v2, .ref kx_now_cables] [.int r14] (I, L, ab_RR, n, nc, ns) res
      exact ab_iret (ty := .int) d_K_cable_161 rfl rfl h
    by_cases c27 : v2 = 11
    · have h := h.2.2.2.2.2.2.2.2.2.2.2.1 c27
      refine ab_tabIn (tgt := 162) d_K_cable_14 (by rw [c27]; decide) (by rw [c27]; decide) (by rw [ab_tab_in (j := 11) c27 (by decide)]; rfl) (by decide) ?_
      refine ab_aload_n (i := 0) d_K_cable_162 rfl rfl ?_
      refine ab_iload_n (i := 1) d_K_cable_163 rfl rfl ?_
      obtain ⟨r15, hC, h⟩ := h
      refine ab_callV (me2 := mt_K_lossOf) (b := kx) (as := [.int v1]) (st := []) (rv := (some (.int r15))) (M2 := (I, L, ab_RR, n, nc, ns)) d_K_cable_164 ce_K_lossOf v_1095 v_1097 v_48 (by decide) rfl (Nat.le_of_ble_eq_true rfl) hC (Nat.le_refl _) (Nat.le_refl _) hc hs (fun j h9 => by cases h9) (fun _ _ => rfl) ?_
      show ab_E w (d + 1) mt_K_cable 167 [.ref kx, .int v1, .int v2, .ref kx_now_cables] [.int r15] (I, L, ab_RR, n, nc, ns) res
      exact ab_iret (ty := .int) d_K_cable_167 rfl rfl h
    have hr : v2.toInt < 0 ∨ 11 < v2.toInt := by
      rcases Int.lt_or_le v2.toInt 0 with h9 | h9
      · exact Or.inl h9
      · refine Or.inr (Int.not_le.mp fun h8 => ?_)
        exact ab_tab_out (lo := 0) (hi := 11) (k := 12) h9 h8 (by decide) (by
          intro j hj
          match j, hj with
          | 0, _ => exact c16
          | 1, _ => exact c17
          | 2, _ => exact c18
          | 3, _ => exact c19
          | 4, _ => exact c20
          | 5, _ => exact c21
          | 6, _ => exact c22
          | 7, _ => exact c23
          | 8, _ => exact c24
          | 9, _ => exact c25
          | 10, _ => exact c26
          | 11, _ => exact c27
          | j9 + 12, hj => exact absurd hj (by omega))
    have h := h.2.2.2.2.2.2.2.2.2.2.2.2 hr
    refine ab_tabOut (tgt := 168) d_K_cable_14 hr (by decide) ?_
    exact ab_throw (E := "java/util/NoSuchElementException") d_K_cable_168 d_K_cable_171 d_K_cable_172 d_K_cable_175 (by decide +kernel) rfl v_1049 v_163 x3_K_185 x4_K_185 h8 (Nat.le_of_ble_eq_true rfl) h
  · exact ab_callVX (me2 := mt_K_needCable) (b := kx) (as := [.int v1]) (st := []) (M2 := (I, L, ab_RR, n, nc + 1, ns + 6)) rfl d_K_cable_2 ce_K_needCable v_1071 v_1073 v_43 (by decide) rfl (Nat.le_of_ble_eq_true rfl) hC (Nat.le_succ _) (Nat.le_add_right _ _) (fun _ _ => rfl) h
theorem q_K_cable_117 {w : ab_Wd} {d n nc ns : Nat} {I : Nat → Nat → Int32} {L : Nat → Nat → Int64} {res : ab_Re} (v1 : Int32) (v2 : Int32) (s0 : Int32) (h8 : 8 ≤ (d + 1)) (hc : nc ≤ res.2.2.2.2.2.1) (hs : ns ≤ res.2.2.2.2.2.2)
    (h : res = (.inl (some (.int s0)), (I, L, ab_RR, n, nc, ns))) : ab_E w (d + 1) mt_K_cable 117 [.ref kx, .int v1, .int v2, .ref kx_now_cables] [.int s0] (I, L, ab_RR, n, nc, ns) res := by
  exact ab_iret (ty := .int) d_K_cable_117 rfl rfl h
theorem q_K_cable_131 {w : ab_Wd} {d n nc ns : Nat} {I : Nat → Nat → Int32} {L : Nat → Nat → Int64} {res : ab_Re} (v1 : Int32) (v2 : Int32) (s0 : Int32) (h8 : 8 ≤ (d + 1)) (hc : nc ≤ res.2.2.2.2.2.1) (hs : ns ≤ res.2.2.2.2.2.2)
    (h : res = (.inl (some (.int s0)), (I, L, ab_RR, n, nc, ns))) : ab_E w (d + 1) mt_K_cable 131 [.ref kx, .int v1, .int v2, .ref kx_now_cables] [.int s0] (I, L, ab_RR, n, nc, ns) res := by
  exact ab_iret (ty := .int) d_K_cable_131 rfl rfl h
