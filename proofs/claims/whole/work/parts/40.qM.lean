theorem d_M_count_0 : decode (ab_bc mt_M_count) 0 = .ok (.aload_n 0, 1) := by decide +kernel
theorem d_M_count_1 : decode (ab_bc mt_M_count) 1 = .ok (.iconst 0, 1) := by decide +kernel
theorem d_M_count_2 : decode (ab_bc mt_M_count) 2 = .ok (.putfield 108, 3) := by decide +kernel
theorem d_M_count_5 : decode (ab_bc mt_M_count) 5 = .ok (.iload_n 1, 1) := by decide +kernel
theorem d_M_count_6 : decode (ab_bc mt_M_count) 6 = .ok (.tableswitch 247 0 22 #[106, 111, 116, 123, 128, 133, 138, 150, 157, 162, 167, 172, 177, 182, 187, 192, 192, 192, 202, 202, 224, 229, 242], 106) := by decide +kernel
theorem d_M_count_112 : decode (ab_bc mt_M_count) 112 = .ok (.aload_n 0, 1) := by decide +kernel
theorem d_M_count_113 : decode (ab_bc mt_M_count) 113 = .ok (.getfield 21, 3) := by decide +kernel
theorem d_M_count_116 : decode (ab_bc mt_M_count) 116 = .ok (.ireturn, 1) := by decide +kernel
theorem d_M_count_117 : decode (ab_bc mt_M_count) 117 = .ok (.aload_n 0, 1) := by decide +kernel
theorem d_M_count_118 : decode (ab_bc mt_M_count) 118 = .ok (.invokevirtual 234, 3) := by decide +kernel
theorem d_M_count_121 : decode (ab_bc mt_M_count) 121 = .ok (.ireturn, 1) := by decide +kernel
theorem d_M_count_122 : decode (ab_bc mt_M_count) 122 = .ok (.aload_n 0, 1) := by decide +kernel
theorem d_M_count_123 : decode (ab_bc mt_M_count) 123 = .ok (.getfield 24, 3) := by decide +kernel
theorem d_M_count_126 : decode (ab_bc mt_M_count) 126 = .ok (.iconst 1, 1) := by decide +kernel
theorem d_M_count_127 : decode (ab_bc mt_M_count) 127 = .ok (.iaload, 1) := by decide +kernel
theorem d_M_count_128 : decode (ab_bc mt_M_count) 128 = .ok (.ireturn, 1) := by decide +kernel
theorem d_M_count_129 : decode (ab_bc mt_M_count) 129 = .ok (.aload_n 0, 1) := by decide +kernel
theorem d_M_count_130 : decode (ab_bc mt_M_count) 130 = .ok (.invokevirtual 251, 3) := by decide +kernel
theorem d_M_count_133 : decode (ab_bc mt_M_count) 133 = .ok (.ireturn, 1) := by decide +kernel
theorem d_M_count_134 : decode (ab_bc mt_M_count) 134 = .ok (.aload_n 0, 1) := by decide +kernel
theorem d_M_count_135 : decode (ab_bc mt_M_count) 135 = .ok (.invokevirtual 294, 3) := by decide +kernel
theorem d_M_count_138 : decode (ab_bc mt_M_count) 138 = .ok (.ireturn, 1) := by decide +kernel
theorem d_M_count_139 : decode (ab_bc mt_M_count) 139 = .ok (.aload_n 0, 1) := by decide +kernel
theorem d_M_count_140 : decode (ab_bc mt_M_count) 140 = .ok (.invokevirtual 297, 3) := by decide +kernel
theorem d_M_count_143 : decode (ab_bc mt_M_count) 143 = .ok (.ireturn, 1) := by decide +kernel
theorem d_M_count_144 : decode (ab_bc mt_M_count) 144 = .ok (.bipush 60, 2) := by decide +kernel
theorem d_M_count_146 : decode (ab_bc mt_M_count) 146 = .ok (.aload_n 0, 1) := by decide +kernel
theorem d_M_count_147 : decode (ab_bc mt_M_count) 147 = .ok (.getfield 24, 3) := by decide +kernel
theorem d_M_count_150 : decode (ab_bc mt_M_count) 150 = .ok (.iconst 2, 1) := by decide +kernel
theorem d_M_count_151 : decode (ab_bc mt_M_count) 151 = .ok (.iaload, 1) := by decide +kernel
theorem d_M_count_152 : decode (ab_bc mt_M_count) 152 = .ok (.invokestatic 141, 3) := by decide +kernel
theorem d_M_count_155 : decode (ab_bc mt_M_count) 155 = .ok (.ireturn, 1) := by decide +kernel
theorem d_M_count_156 : decode (ab_bc mt_M_count) 156 = .ok (.aload_n 0, 1) := by decide +kernel
theorem d_M_count_157 : decode (ab_bc mt_M_count) 157 = .ok (.getfield 24, 3) := by decide +kernel
theorem d_M_count_160 : decode (ab_bc mt_M_count) 160 = .ok (.iconst 2, 1) := by decide +kernel
theorem d_M_count_161 : decode (ab_bc mt_M_count) 161 = .ok (.iaload, 1) := by decide +kernel
theorem d_M_count_162 : decode (ab_bc mt_M_count) 162 = .ok (.ireturn, 1) := by decide +kernel
theorem d_M_count_163 : decode (ab_bc mt_M_count) 163 = .ok (.aload_n 0, 1) := by decide +kernel
theorem d_M_count_164 : decode (ab_bc mt_M_count) 164 = .ok (.invokevirtual 300, 3) := by decide +kernel
theorem d_M_count_167 : decode (ab_bc mt_M_count) 167 = .ok (.ireturn, 1) := by decide +kernel
theorem d_M_count_168 : decode (ab_bc mt_M_count) 168 = .ok (.aload_n 0, 1) := by decide +kernel
theorem d_M_count_169 : decode (ab_bc mt_M_count) 169 = .ok (.invokevirtual 303, 3) := by decide +kernel
theorem d_M_count_172 : decode (ab_bc mt_M_count) 172 = .ok (.ireturn, 1) := by decide +kernel
theorem d_M_count_173 : decode (ab_bc mt_M_count) 173 = .ok (.aload_n 0, 1) := by decide +kernel
theorem d_M_count_174 : decode (ab_bc mt_M_count) 174 = .ok (.invokevirtual 306, 3) := by decide +kernel
theorem d_M_count_177 : decode (ab_bc mt_M_count) 177 = .ok (.ireturn, 1) := by decide +kernel
theorem d_M_count_178 : decode (ab_bc mt_M_count) 178 = .ok (.aload_n 0, 1) := by decide +kernel
theorem d_M_count_179 : decode (ab_bc mt_M_count) 179 = .ok (.invokevirtual 309, 3) := by decide +kernel
theorem d_M_count_182 : decode (ab_bc mt_M_count) 182 = .ok (.ireturn, 1) := by decide +kernel
theorem d_M_count_183 : decode (ab_bc mt_M_count) 183 = .ok (.aload_n 0, 1) := by decide +kernel
theorem d_M_count_184 : decode (ab_bc mt_M_count) 184 = .ok (.getfield 212, 3) := by decide +kernel
theorem d_M_count_187 : decode (ab_bc mt_M_count) 187 = .ok (.ireturn, 1) := by decide +kernel
theorem d_M_count_188 : decode (ab_bc mt_M_count) 188 = .ok (.aload_n 0, 1) := by decide +kernel
theorem d_M_count_189 : decode (ab_bc mt_M_count) 189 = .ok (.getfield 215, 3) := by decide +kernel
theorem d_M_count_192 : decode (ab_bc mt_M_count) 192 = .ok (.ireturn, 1) := by decide +kernel
theorem d_M_count_193 : decode (ab_bc mt_M_count) 193 = .ok (.aload_n 0, 1) := by decide +kernel
theorem d_M_count_194 : decode (ab_bc mt_M_count) 194 = .ok (.getfield 111, 3) := by decide +kernel
theorem d_M_count_197 : decode (ab_bc mt_M_count) 197 = .ok (.ireturn, 1) := by decide +kernel
theorem d_M_count_198 : decode (ab_bc mt_M_count) 198 = .ok (.aload_n 0, 1) := by decide +kernel
theorem d_M_count_199 : decode (ab_bc mt_M_count) 199 = .ok (.getfield 31, 3) := by decide +kernel
theorem d_M_count_202 : decode (ab_bc mt_M_count) 202 = .ok (.iload_n 1, 1) := by decide +kernel
theorem d_M_count_203 : decode (ab_bc mt_M_count) 203 = .ok (.bipush 15, 2) := by decide +kernel
theorem d_M_count_205 : decode (ab_bc mt_M_count) 205 = .ok (.isub, 1) := by decide +kernel
theorem d_M_count_206 : decode (ab_bc mt_M_count) 206 = .ok (.iaload, 1) := by decide +kernel
theorem d_M_count_207 : decode (ab_bc mt_M_count) 207 = .ok (.ireturn, 1) := by decide +kernel
theorem d_M_count_208 : decode (ab_bc mt_M_count) 208 = .ok (.aload_n 0, 1) := by decide +kernel
theorem d_M_count_209 : decode (ab_bc mt_M_count) 209 = .ok (.invokevirtual 312, 3) := by decide +kernel
theorem d_M_count_212 : decode (ab_bc mt_M_count) 212 = .ok (.iload_n 1, 1) := by decide +kernel
theorem d_M_count_213 : decode (ab_bc mt_M_count) 213 = .ok (.bipush 18, 2) := by decide +kernel
theorem d_M_count_215 : decode (ab_bc mt_M_count) 215 = .ok (.if_icmp .ne 10, 3) := by decide +kernel
theorem d_M_count_218 : decode (ab_bc mt_M_count) 218 = .ok (.aload_n 0, 1) := by decide +kernel
theorem d_M_count_219 : decode (ab_bc mt_M_count) 219 = .ok (.getfield 315, 3) := by decide +kernel
theorem d_M_count_222 : decode (ab_bc mt_M_count) 222 = .ok (.goto 7, 3) := by decide +kernel
theorem d_M_count_225 : decode (ab_bc mt_M_count) 225 = .ok (.aload_n 0, 1) := by decide +kernel
theorem d_M_count_226 : decode (ab_bc mt_M_count) 226 = .ok (.getfield 318, 3) := by decide +kernel
theorem d_M_count_229 : decode (ab_bc mt_M_count) 229 = .ok (.ireturn, 1) := by decide +kernel
theorem d_M_count_230 : decode (ab_bc mt_M_count) 230 = .ok (.aload_n 0, 1) := by decide +kernel
theorem d_M_count_231 : decode (ab_bc mt_M_count) 231 = .ok (.invokevirtual 321, 3) := by decide +kernel
theorem d_M_count_234 : decode (ab_bc mt_M_count) 234 = .ok (.ireturn, 1) := by decide +kernel
theorem d_M_count_235 : decode (ab_bc mt_M_count) 235 = .ok (.aload_n 0, 1) := by decide +kernel
theorem d_M_count_236 : decode (ab_bc mt_M_count) 236 = .ok (.aload_n 0, 1) := by decide +kernel
theorem d_M_count_237 : decode (ab_bc mt_M_count) 237 = .ok (.invokevirtual 251, 3) := by decide +kernel
theorem d_M_count_240 : decode (ab_bc mt_M_count) 240 = .ok (.aload_n 0, 1) := by decide +kernel
theorem d_M_count_241 : decode (ab_bc mt_M_count) 241 = .ok (.invokevirtual 321, 3) := by decide +kernel
theorem d_M_count_244 : decode (ab_bc mt_M_count) 244 = .ok (.invokevirtual 324, 3) := by decide +kernel
theorem d_M_count_247 : decode (ab_bc mt_M_count) 247 = .ok (.ireturn, 1) := by decide +kernel
theorem d_M_count_248 : decode (ab_bc mt_M_count) 248 = .ok (.aload_n 0, 1) := by decide +kernel
theorem d_M_count_249 : decode (ab_bc mt_M_count) 249 = .ok (.invokevirtual 327, 3) := by decide +kernel
theorem d_M_count_252 : decode (ab_bc mt_M_count) 252 = .ok (.ireturn, 1) := by decide +kernel
theorem d_M_count_253 : decode (ab_bc mt_M_count) 253 = .ok (.aload_n 0, 1) := by decide +kernel
theorem d_M_count_254 : decode (ab_bc mt_M_count) 254 = .ok (.iconst 1, 1) := by decide +kernel
theorem d_M_count_255 : decode (ab_bc mt_M_count) 255 = .ok (.invokevirtual 202, 3) := by decide +kernel
theorem d_M_count_258 : decode (ab_bc mt_M_count) 258 = .ok (.ireturn, 1) := by decide +kernel
-- CableKeeperModel.count(I)I over mx
theorem q_M_count_0 {w : ab_Wd} {d n nc ns : Nat} {I : Nat → Nat → Int32} {L : Nat → Nat → Int64} {res : ab_Re} (v1 : Int32) (hc : nc ≤ res.2.2.2.2.2.1) (hs : ns ≤ res.2.2.2.2.2.2)
    (h : ((v1 = 0 → (res = (.inl (some (.int (I mx 2))), ((ab_up I mx 1 0), L, ab_RR, n, nc, ns)))) ∧ (v1 = 1 → (∃ (r1 : Int32), ab_C w d mt_M_many [.ref mx] ((ab_up I mx 1 0), L, ab_RR, n, nc, ns) (.inl (some (.int r1)), ((ab_up I mx 1 0), L, ab_RR, n, nc, ns)) ∧ res = (.inl (some (.int r1)), ((ab_up I mx 1 0), L, ab_RR, n, nc, ns)))) ∧ (v1 = 2 → (res = (.inl (some (.int (I mx_now 1))), ((ab_up I mx 1 0), L, ab_RR, n, nc, ns)))) ∧ (v1 = 3 → (∃ (r2 : Int32) (I3 : Nat → Nat → Int32), ab_C w d mt_M_netNow [.ref mx] ((ab_up I mx 1 0), L, ab_RR, n, nc, ns) (.inl (some (.int r2)), (I3, L, ab_RR, n, nc, ns)) ∧ res = (.inl (some (.int r2)), (I3, L, ab_RR, n, nc, ns)))) ∧ (v1 = 4 → (∃ (r4 : Int32) (I5 : Nat → Nat → Int32), ab_C w d mt_M_totalNow [.ref mx] ((ab_up I mx 1 0), L, ab_RR, n, nc, ns) (.inl (some (.int r4)), (I5, L, ab_RR, n, nc, ns)) ∧ res = (.inl (some (.int r4)), (I5, L, ab_RR, n, nc, ns)))) ∧ (v1 = 5 → (∃ (r6 : Int32) (I7 : Nat → Nat → Int32), ab_C w d mt_M_piecesNow [.ref mx] ((ab_up I mx 1 0), L, ab_RR, n, nc, ns) (.inl (some (.int r6)), (I7, L, ab_RR, n, nc, ns)) ∧ res = (.inl (some (.int r6)), (I7, L, ab_RR, n, nc, ns)))) ∧ (v1 = 6 → (res = (.inl (some (.int (ab_min32 60 (I mx_now 2)))), ((ab_up I mx 1 0), L, ab_RR, n, nc, ns)))) ∧ (v1 = 7 → (res = (.inl (some (.int (I mx_now 2))), ((ab_up I mx 1 0), L, ab_RR, n, nc, ns)))) ∧ (v1 = 8 → (∃ (r8 : Int32) (I9 : Nat → Nat → Int32), ab_C w d mt_M_nextBest [.ref mx] ((ab_up I mx 1 0), L, ab_RR, n, nc, ns) (.inl (some (.int r8)), (I9, L, ab_RR, n, nc, ns)) ∧ res = (.inl (some (.int r8)), (I9, L, ab_RR, n, nc, ns)))) ∧ (v1 = 9 → (∃ (r10 : Int32) (I11 : Nat → Nat → Int32), ab_C w d mt_M_hub [.ref mx] ((ab_up I mx 1 0), L, ab_RR, n, nc, ns) (.inl (some (.int r10)), (I11, L, ab_RR, n, nc, ns)) ∧ res = (.inl (some (.int r10)), (I11, L, ab_RR, n, nc, ns)))) ∧ (v1 = 10 → (∃ (r12 : Int32) (I13 : Nat → Nat → Int32), ab_C w d mt_M_longest [.ref mx] ((ab_up I mx 1 0), L, ab_RR, n, nc, ns) (.inl (some (.int r12)), (I13, L, ab_RR, n, nc, ns)) ∧ res = (.inl (some (.int r12)), (I13, L, ab_RR, n, nc, ns)))) ∧ (v1 = 11 → (∃ (r14 : Int32) (I15 : Nat → Nat → Int32), ab_C w d mt_M_twins [.ref mx] ((ab_up I mx 1 0), L, ab_RR, n, nc, ns) (.inl (some (.int r14)), (I15, L, ab_RR, n, nc, ns)) ∧ res = (.inl (some (.int r14)), (I15, L, ab_RR, n, nc, ns)))) ∧ (v1 = 12 → (res = (.inl (some (.int (I mx 41))), ((ab_up I mx 1 0), L, ab_RR, n, nc, ns)))) ∧ (v1 = 13 → (res = (.inl (some (.int (I mx 43))), ((ab_up I mx 1 0), L, ab_RR, n, nc, ns)))) ∧ (v1 = 14 → (res = (.inl (some (.int (I mx 8))), ((ab_up I mx 1 0), L, ab_RR, n, nc, ns)))) ∧ (v1 = 15 → ((vp_in (v1 - 15) 3) ∧ res = (.inl (some (.int (I mx_status (v1 - 15).toNatClampNeg))), ((ab_up I mx 1 0), L, ab_RR, n, nc, ns)))) ∧ (v1 = 16 → ((vp_in (v1 - 15) 3) ∧ res = (.inl (some (.int (I mx_status (v1 - 15).toNatClampNeg))), ((ab_up I mx 1 0), L, ab_RR, n, nc, ns)))) ∧ (v1 = 17 → ((vp_in (v1 - 15) 3) ∧ res = (.inl (some (.int (I mx_status (v1 - 15).toNatClampNeg))), ((ab_up I mx 1 0), L, ab_RR, n, nc, ns)))) ∧ (v1 = 18 → (∃ (I20 : Nat → Nat → Int32), ab_C w d mt_M_tellWeak [.ref mx] ((ab_up I mx 1 0), L, ab_RR, n, nc, ns) (.inl none, (I20, L, ab_RR, n, nc, ns)) ∧ ((¬ v1 = 18 → (ab_E w (d + 1) mt_M_count 229 [.ref mx, .int v1] [.int (I20 mx 32)] (I20, L, ab_RR, n, nc, ns) res)) ∧ (v1 = 18 → (ab_E w (d + 1) mt_M_count 229 [.ref mx, .int v1] [.int (I20 mx 31)] (I20, L, ab_RR, n, nc, ns) res))))) ∧ (v1 = 19 → (∃ (I23 : Nat → Nat → Int32), ab_C w d mt_M_tellWeak [.ref mx] ((ab_up I mx 1 0), L, ab_RR, n, nc, ns) (.inl none, (I23, L, ab_RR, n, nc, ns)) ∧ ((¬ v1 = 18 → (ab_E w (d + 1) mt_M_count 229 [.ref mx, .int v1] [.int (I23 mx 32)] (I23, L, ab_RR, n, nc, ns) res)) ∧ (v1 = 18 → (ab_E w (d + 1) mt_M_count 229 [.ref mx, .int v1] [.int (I23 mx 31)] (I23, L, ab_RR, n, nc, ns) res))))) ∧ (v1 = 20 → (∃ (r25 : Int32) (I26 : Nat → Nat → Int32), ab_C w d mt_M_centre [.ref mx] ((ab_up I mx 1 0), L, ab_RR, n, nc, ns) (.inl (some (.int r25)), (I26, L, ab_RR, n, nc, ns)) ∧ res = (.inl (some (.int r25)), (I26, L, ab_RR, n, nc, ns)))) ∧ (v1 = 21 → (∃ (r27 : Int32) (I28 : Nat → Nat → Int32), ab_C w d mt_M_netNow [.ref mx] ((ab_up I mx 1 0), L, ab_RR, n, nc, ns) (.inl (some (.int r27)), (I28, L, ab_RR, n, nc, ns)) ∧ ∃ (r29 : Int32) (I30 : Nat → Nat → Int32), ab_C w d mt_M_centre [.ref mx] (I28, L, ab_RR, n, nc, ns) (.inl (some (.int r29)), (I30, L, ab_RR, n, nc, ns)) ∧ ∃ (r31 : Int32) (I32 : Nat → Nat → Int32), ab_C w d mt_M_farthest [.ref mx, .int r27, .int r29] (I30, L, ab_RR, n, nc, ns) (.inl (some (.int r31)), (I32, L, ab_RR, n, nc, ns)) ∧ res = (.inl (some (.int r31)), (I32, L, ab_RR, n, nc, ns)))) ∧ (v1 = 22 → (∃ (r33 : Int32) (I34 : Nat → Nat → Int32), ab_C w d mt_M_detours [.ref mx] ((ab_up I mx 1 0), L, ab_RR, n, nc, ns) (.inl (some (.int r33)), (I34, L, ab_RR, n, nc, ns)) ∧ res = (.inl (some (.int r33)), (I34, L, ab_RR, n, nc, ns)))) ∧ ((v1.toInt < 0 ∨ 22 < v1.toInt) → (∃ (r35 : Int32) (I36 : Nat → Nat → Int32), ab_C w d mt_M_fail [.ref mx, .int 1] ((ab_up I mx 1 0), L, ab_RR, n, nc, ns) (.inl (some (.int r35)), (I36, L, ab_RR, n, nc, ns)) ∧ res = (.inl (some (.int r35)), (I36, L, ab_RR, n, nc, ns)))))) : ab_E w (d + 1) mt_M_count 0 [.ref mx, .int v1] [] (I, L, ab_RR, n, nc, ns) res := by
  refine ab_aload_n (i := 0) d_M_count_0 rfl rfl ?_
  refine ab_iconst (v := 0) d_M_count_1 rfl ?_
  refine ab_putI (ci := 11) (k := 1) d_M_count_2 v_1369 rfl (by decide) (by decide) rfl (Or.inl rfl) rfl rfl ?_
  refine ab_iload_n (i := 1) d_M_count_5 rfl rfl ?_
  by_cases c37 : v1 = 0
  · have h := h.1 c37
    refine ab_tabIn (tgt := 112) d_M_count_6 (by rw [c37]; decide) (by rw [c37]; decide) (by rw [ab_tab_in (j := 0) c37 (by decide)]; rfl) (by decide) ?_
    refine ab_aload_n (i := 0) d_M_count_112 rfl rfl ?_
    refine ab_getI (ci := 11) (k := 2) d_M_count_113 v_1370 rfl (by decide) (by decide) rfl ?_
    exact ab_iret (ty := .int) d_M_count_116 rfl rfl h
  by_cases c38 : v1 = 1
  · have h := h.2.1 c38
    refine ab_tabIn (tgt := 117) d_M_count_6 (by rw [c38]; decide) (by rw [c38]; decide) (by rw [ab_tab_in (j := 1) c38 (by decide)]; rfl) (by decide) ?_
    refine ab_aload_n (i := 0) d_M_count_117 rfl rfl ?_
    obtain ⟨r1, hC, h⟩ := h
    refine ab_callV (me2 := mt_M_many) (b := mx) (as := []) (st := []) (rv := (some (.int r1))) (M2 := ((ab_up I mx 1 0), L, ab_RR, n, nc, ns)) d_M_count_118 ce_M_many v_1635 v_1637 v_79 (by decide) rfl (Nat.le_of_ble_eq_true rfl) hC (Nat.le_refl _) (Nat.le_refl _) hc hs (fun j h9 => by cases h9) (fun _ _ => rfl) ?_
    show ab_E w (d + 1) mt_M_count 121 [.ref mx, .int v1] [.int r1] ((ab_up I mx 1 0), L, ab_RR, n, nc, ns) res
    exact ab_iret (ty := .int) d_M_count_121 rfl rfl h
  by_cases c39 : v1 = 2
  · have h := h.2.2.1 c39
    refine ab_tabIn (tgt := 122) d_M_count_6 (by rw [c39]; decide) (by rw [c39]; decide) (by rw [ab_tab_in (j := 2) c39 (by decide)]; rfl) (by decide) ?_
    refine ab_aload_n (i := 0) d_M_count_122 rfl rfl ?_
    refine ab_getR (ci := 11) (k := 4) (j := mx_now) d_M_count_123 v_1372 rfl (by decide) (by decide) rfl r_mx_4 ?_
    refine ab_iconst (v := 1) d_M_count_126 rfl ?_
    refine ab_iald d_M_count_127 rfl rfl (by unfold vp_in; decide) ?_
    exact ab_iret (ty := .int) d_M_count_128 rfl rfl h
  by_cases c40 : v1 = 3
  · have h := h.2.2.2.1 c40
    refine ab_tabIn (tgt := 129) d_M_count_6 (by rw [c40]; decide) (by rw [c40]; decide) (by rw [ab_tab_in (j := 3) c40 (by decide)]; rfl) (by decide) ?_
    refine ab_aload_n (i := 0) d_M_count_129 rfl rfl ?_
    obtain ⟨r2, I3, hC, h⟩ := h
    refine ab_callV (me2 := mt_M_netNow) (b := mx) (as := []) (st := []) (rv := (some (.int r2))) (M2 := (I3, L, ab_RR, n, nc, ns)) d_M_count_130 ce_M_netNow v_1639 v_1641 v_80 (by decide) rfl (Nat.le_of_ble_eq_true rfl) hC (Nat.le_refl _) (Nat.le_refl _) hc hs (fun j h9 => by cases h9) (fun _ _ => rfl) ?_
    show ab_E w (d + 1) mt_M_count 133 [.ref mx, .int v1] [.int r2] (I3, L, ab_RR, n, nc, ns) res
    exact ab_iret (ty := .int) d_M_count_133 rfl rfl h
  by_cases c41 : v1 = 4
  · have h := h.2.2.2.2.1 c41
    refine ab_tabIn (tgt := 134) d_M_count_6 (by rw [c41]; decide) (by rw [c41]; decide) (by rw [ab_tab_in (j := 4) c41 (by decide)]; rfl) (by decide) ?_
    refine ab_aload_n (i := 0) d_M_count_134 rfl rfl ?_
    obtain ⟨r4, I5, hC, h⟩ := h
    refine ab_callV (me2 := mt_M_totalNow) (b := mx) (as := []) (st := []) (rv := (some (.int r4))) (M2 := (I5, L, ab_RR, n, nc, ns)) d_M_count_135 ce_M_totalNow v_1663 v_1665 v_85 (by decide) rfl (Nat.le_of_ble_eq_true rfl) hC (Nat.le_refl _) (Nat.le_refl _) hc hs (fun j h9 => by cases h9) (fun _ _ => rfl) ?_
    show ab_E w (d + 1) mt_M_count 138 [.ref mx, .int v1] [.int r4] (I5, L, ab_RR, n, nc, ns) res
    exact ab_iret (ty := .int) d_M_count_138 rfl rfl h
  by_cases c42 : v1 = 5
  · have h := h.2.2.2.2.2.1 c42
    refine ab_tabIn (tgt := 139) d_M_count_6 (by rw [c42]; decide) (by rw [c42]; decide) (by rw [ab_tab_in (j := 5) c42 (by decide)]; rfl) (by decide) ?_
    refine ab_aload_n (i := 0) d_M_count_139 rfl rfl ?_
    obtain ⟨r6, I7, hC, h⟩ := h
    refine ab_callV (me2 := mt_M_piecesNow) (b := mx) (as := []) (st := []) (rv := (some (.int r6))) (M2 := (I7, L, ab_RR, n, nc, ns)) d_M_count_140 ce_M_piecesNow v_1667 v_1669 v_86 (by decide) rfl (Nat.le_of_ble_eq_true rfl) hC (Nat.le_refl _) (Nat.le_refl _) hc hs (fun j h9 => by cases h9) (fun _ _ => rfl) ?_
    show ab_E w (d + 1) mt_M_count 143 [.ref mx, .int v1] [.int r6] (I7, L, ab_RR, n, nc, ns) res
    exact ab_iret (ty := .int) d_M_count_143 rfl rfl h
  by_cases c43 : v1 = 6
  · have h := h.2.2.2.2.2.2.1 c43
    refine ab_tabIn (tgt := 144) d_M_count_6 (by rw [c43]; decide) (by rw [c43]; decide) (by rw [ab_tab_in (j := 6) c43 (by decide)]; rfl) (by decide) ?_
    refine ab_bipush (v := 60) d_M_count_144 rfl ?_
    refine ab_aload_n (i := 0) d_M_count_146 rfl rfl ?_
    refine ab_getR (ci := 11) (k := 4) (j := mx_now) d_M_count_147 v_1372 rfl (by decide) (by decide) rfl r_mx_4 ?_
    refine ab_iconst (v := 2) d_M_count_150 rfl ?_
    refine ab_iald d_M_count_151 rfl rfl (by unfold vp_in; decide) ?_
    refine ab_min d_M_count_152 v_1581 v_448 v_150 v_449 (Nat.succ_le_succ (Nat.zero_le _)) (Nat.le_of_ble_eq_true rfl) hc hs ?_
    exact ab_iret (ty := .int) d_M_count_155 rfl rfl h
  by_cases c44 : v1 = 7
  · have h := h.2.2.2.2.2.2.2.1 c44
    refine ab_tabIn (tgt := 156) d_M_count_6 (by rw [c44]; decide) (by rw [c44]; decide) (by rw [ab_tab_in (j := 7) c44 (by decide)]; rfl) (by decide) ?_
    refine ab_aload_n (i := 0) d_M_count_156 rfl rfl ?_
    refine ab_getR (ci := 11) (k := 4) (j := mx_now) d_M_count_157 v_1372 rfl (by decide) (by decide) rfl r_mx_4 ?_
    refine ab_iconst (v := 2) d_M_count_160 rfl ?_
    refine ab_iald d_M_count_161 rfl rfl (by unfold vp_in; decide) ?_
    exact ab_iret (ty := .int) d_M_count_162 rfl rfl h
  by_cases c45 : v1 = 8
  · have h := h.2.2.2.2.2.2.2.2.1 c45
    refine ab_tabIn (tgt := 163) d_M_count_6 (by rw [c45]; decide) (by rw [c45]; decide) (by rw [ab_tab_in (j := 8) c45 (by decide)]; rfl) (by decide) ?_
    refine ab_aload_n (i := 0) d_M_count_163 rfl rfl ?_
    obtain ⟨r8, I9, hC, h⟩ := h
    refine ab_callV (me2 := mt_M_nextBest) (b := mx) (as := []) (st := []) (rv := (some (.int r8))) (M2 := (I9, L, ab_RR, n, nc, ns)) d_M_count_164 ce_M_nextBest v_1675 v_1677 v_88 (by decide) rfl (Nat.le_of_ble_eq_true rfl) hC (Nat.le_refl _) (Nat.le_refl _) hc hs (fun j h9 => by cases h9) (fun _ _ => rfl) ?_
    show ab_E w (d + 1) mt_M_count 167 [.ref mx, .int v1] [.int r8] (I9, L, ab_RR, n, nc, ns) res
    exact ab_iret (ty := .int) d_M_count_167 rfl rfl h
  by_cases c46 : v1 = 9
  · have h := h.2.2.2.2.2.2.2.2.2.1 c46
    refine ab_tabIn (tgt := 168) d_M_count_6 (by rw [c46]; decide) (by rw [c46]; decide) (by rw [ab_tab_in (j := 9) c46 (by decide)]; rfl) (by decide) ?_
    refine ab_aload_n (i := 0) d_M_count_168 rfl rfl ?_
    obtain ⟨r10, I11, hC, h⟩ := h
    refine ab_callV (me2 := mt_M_hub) (b := mx) (as := []) (st := []) (rv := (some (.int r10))) (M2 := (I11, L, ab_RR, n, nc, ns)) d_M_count_169 ce_M_hub v_1699 v_1701 v_94 (by decide) rfl (Nat.le_of_ble_eq_true rfl) hC (Nat.le_refl _) (Nat.le_refl _) hc hs (fun j h9 => by cases h9) (fun _ _ => rfl) ?_
    show ab_E w (d + 1) mt_M_count 172 [.ref mx, .int v1] [.int r10] (I11, L, ab_RR, n, nc, ns) res
    exact ab_iret (ty := .int) d_M_count_172 rfl rfl h
  by_cases c47 : v1 = 10
  · have h := h.2.2.2.2.2.2.2.2.2.2.1 c47
    refine ab_tabIn (tgt := 173) d_M_count_6 (by rw [c47]; decide) (by rw [c47]; decide) (by rw [ab_tab_in (j := 10) c47 (by decide)]; rfl) (by decide) ?_
    refine ab_aload_n (i := 0) d_M_count_173 rfl rfl ?_
    obtain ⟨r12, I13, hC, h⟩ := h
    refine ab_callV (me2 := mt_M_longest) (b := mx) (as := []) (st := []) (rv := (some (.int r12))) (M2 := (I13, L, ab_RR, n, nc, ns)) d_M_count_174 ce_M_longest v_1707 v_1709 v_96 (by decide) rfl (Nat.le_of_ble_eq_true rfl) hC (Nat.le_refl _) (Nat.le_refl _) hc hs (fun j h9 => by cases h9) (fun _ _ => rfl) ?_
    show ab_E w (d + 1) mt_M_count 177 [.ref mx, .int v1] [.int r12] (I13, L, ab_RR, n, nc, ns) res
    exact ab_iret (ty := .int) d_M_count_177 rfl rfl h
  by_cases c48 : v1 = 11
  · have h := h.2.2.2.2.2.2.2.2.2.2.2.1 c48
    refine ab_tabIn (tgt := 178) d_M_count_6 (by rw [c48]; decide) (by rw [c48]; decide) (by rw [ab_tab_in (j := 11) c48 (by decide)]; rfl) (by decide) ?_
    refine ab_aload_n (i := 0) d_M_count_178 rfl rfl ?_
    obtain ⟨r14, I15, hC, h⟩ := h
    refine ab_callV (me2 := mt_M_twins) (b := mx) (as := []) (st := []) (rv := (some (.int r14))) (M2 := (I15, L, ab_RR, n, nc, ns)) d_M_count_179 ce_M_twins v_1715 v_1717 v_98 (by decide) rfl (Nat.le_of_ble_eq_true rfl) hC (Nat.le_refl _) (Nat.le_refl _) hc hs (fun j h9 => by cases h9) (fun _ _ => rfl) ?_
    show ab_E w (d + 1) mt_M_count 182 [.ref mx, .int v1] [.int r14] (I15, L, ab_RR, n, nc, ns) res
    exact ab_iret (ty := .int) d_M_count_182 rfl rfl h
  by_cases c49 : v1 = 12
  · have h := h.2.2.2.2.2.2.2.2.2.2.2.2.1 c49
    refine ab_tabIn (tgt := 183) d_M_count_6 (by rw [c49]; decide) (by rw [c49]; decide) (by rw [ab_tab_in (j := 12) c49 (by decide)]; rfl) (by decide) ?_
    refine ab_aload_n (i := 0) d_M_count_183 rfl rfl ?_
    refine ab_getI (ci := 11) (k := 41) d_M_count_184 v_1409 rfl (by decide) (by decide) rfl ?_
    exact ab_iret (ty := .int) d_M_count_187 rfl rfl h
  by_cases c50 : v1 = 13
  · have h := h.2.2.2.2.2.2.2.2.2.2.2.2.2.1 c50
    refine ab_tabIn (tgt := 188) d_M_count_6 (by rw [c50]; decide) (by rw [c50]; decide) (by rw [ab_tab_in (j := 13) c50 (by decide)]; rfl) (by decide) ?_
    refine ab_aload_n (i := 0) d_M_count_188 rfl rfl ?_
    refine ab_getI (ci := 11) (k := 43) d_M_count_189 v_1411 rfl (by decide) (by decide) rfl ?_
    exact ab_iret (ty := .int) d_M_count_192 rfl rfl h
  by_cases c51 : v1 = 14
  · have h := h.2.2.2.2.2.2.2.2.2.2.2.2.2.2.1 c51
    refine ab_tabIn (tgt := 193) d_M_count_6 (by rw [c51]; decide) (by rw [c51]; decide) (by rw [ab_tab_in (j := 14) c51 (by decide)]; rfl) (by decide) ?_
    refine ab_aload_n (i := 0) d_M_count_193 rfl rfl ?_
    refine ab_getI (ci := 11) (k := 8) d_M_count_194 v_1376 rfl (by decide) (by decide) rfl ?_
    exact ab_iret (ty := .int) d_M_count_197 rfl rfl h
  by_cases c52 : v1 = 15
  · have h := h.2.2.2.2.2.2.2.2.2.2.2.2.2.2.2.1 c52
    refine ab_tabIn (tgt := 198) d_M_count_6 (by rw [c52]; decide) (by rw [c52]; decide) (by rw [ab_tab_in (j := 15) c52 (by decide)]; rfl) (by decide) ?_
    refine ab_aload_n (i := 0) d_M_count_198 rfl rfl ?_
    refine ab_getR (ci := 11) (k := 6) (j := mx_status) d_M_count_199 v_1374 rfl (by decide) (by decide) rfl r_mx_6 ?_
    refine ab_iload_n (i := 1) d_M_count_202 rfl rfl ?_
    refine ab_bipush (v := 15) d_M_count_203 rfl ?_
    refine ab_isub d_M_count_205 ?_
    have g16 := h.1; have h := h.2
    refine ab_iald d_M_count_206 rfl rfl g16 ?_
    exact ab_iret (ty := .int) d_M_count_207 rfl rfl h
  by_cases c53 : v1 = 16
  · have h := h.2.2.2.2.2.2.2.2.2.2.2.2.2.2.2.2.1 c53
    refine ab_tabIn (tgt := 198) d_M_count_6 (by rw [c53]; decide) (by rw [c53]; decide) (by rw [ab_tab_in (j := 16) c53 (by decide)]; rfl) (by decide) ?_
    refine ab_aload_n (i := 0) d_M_count_198 rfl rfl ?_
    refine ab_getR (ci := 11) (k := 6) (j := mx_status) d_M_count_199 v_1374 rfl (by decide) (by decide) rfl r_mx_6 ?_
    refine ab_iload_n (i := 1) d_M_count_202 rfl rfl ?_
    refine ab_bipush (v := 15) d_M_count_203 rfl ?_
    refine ab_isub d_M_count_205 ?_
    have g17 := h.1; have h := h.2
    refine ab_iald d_M_count_206 rfl rfl g17 ?_
    exact ab_iret (ty := .int) d_M_count_207 rfl rfl h
  by_cases c54 : v1 = 17
  · have h := h.2.2.2.2.2.2.2.2.2.2.2.2.2.2.2.2.2.1 c54
    refine ab_tabIn (tgt := 198) d_M_count_6 (by rw [c54]; decide) (by rw [c54]; decide) (by rw [ab_tab_in (j := 17) c54 (by decide)]; rfl) (by decide) ?_
    refine ab_aload_n (i := 0) d_M_count_198 rfl rfl ?_
    refine ab_getR (ci := 11) (k := 6) (j := mx_status) d_M_count_199 v_1374 rfl (by decide) (by decide) rfl r_mx_6 ?_
    refine ab_iload_n (i := 1) d_M_count_202 rfl rfl ?_
    refine ab_bipush (v := 15) d_M_count_203 rfl ?_
    refine ab_isub d_M_count_205 ?_
    have g18 := h.1; have h := h.2
    refine ab_iald d_M_count_206 rfl rfl g18 ?_
    exact ab_iret (ty := .int) d_M_count_207 rfl rfl h
  by_cases c55 : v1 = 18
  · have h := h.2.2.2.2.2.2.2.2.2.2.2.2.2.2.2.2.2.2.1 c55
    refine ab_tabIn (tgt := 208) d_M_count_6 (by rw [c55]; decide) (by rw [c55]; decide) (by rw [ab_tab_in (j := 18) c55 (by decide)]; rfl) (by decide) ?_
    refine ab_aload_n (i := 0) d_M_count_208 rfl rfl ?_
    obtain ⟨I20, hC, h⟩ := h
    refine ab_callV (me2 := mt_M_tellWeak) (b := mx) (as := []) (st := []) (rv := none) (M2 := (I20, L, ab_RR, n, nc, ns)) d_M_count_209 ce_M_tellWeak v_1719 v_1721 v_99 (by decide) rfl (Nat.le_of_ble_eq_true rfl) hC (Nat.le_refl _) (Nat.le_refl _) hc hs (fun j h9 => by cases h9) (fun _ _ => rfl) ?_
    show ab_E w (d + 1) mt_M_count 212 [.ref mx, .int v1] [] (I20, L, ab_RR, n, nc, ns) res
    refine ab_iload_n (i := 1) d_M_count_212 rfl rfl ?_
    refine ab_bipush (v := 18) d_M_count_213 rfl ?_
    refine ab_icmp_ne (tgt := 225) d_M_count_215 (by decide) (fun c21 => ?_) (fun c21 => ?_)
    · have h := h.1 c21
      refine ab_aload_n (i := 0) d_M_count_225 rfl rfl ?_
      refine ab_getI (ci := 11) (k := 32) d_M_count_226 v_1400 rfl (by decide) (by decide) rfl ?_
      exact h
    · have h := h.2 c21
      refine ab_aload_n (i := 0) d_M_count_218 rfl rfl ?_
      refine ab_getI (ci := 11) (k := 31) d_M_count_219 v_1399 rfl (by decide) (by decide) rfl ?_
      refine ab_goto (tgt := 229) d_M_count_222 (by decide) ?_
      exact h
  by_cases c56 : v1 = 19
  · have h := h.2.2.2.2.2.2.2.2.2.2.2.2.2.2.2.2.2.2.2.1 c56
    refine ab_tabIn (tgt := 208) d_M_count_6 (by rw [c56]; decide) (by rw [c56]; decide) (by rw [ab_tab_in (j := 19) c56 (by decide)]; rfl) (by decide) ?_
    refine ab_aload_n (i := 0) d_M_count_208 rfl rfl ?_
    obtain ⟨I23, hC, h⟩ := h
    refine ab_callV (me2 := mt_M_tellWeak) (b := mx) (as := []) (st := []) (rv := none) (M2 := (I23, L, ab_RR, n, nc, ns)) d_M_count_209 ce_M_tellWeak v_1719 v_1721 v_99 (by decide) rfl (Nat.le_of_ble_eq_true rfl) hC (Nat.le_refl _) (Nat.le_refl _) hc hs (fun j h9 => by cases h9) (fun _ _ => rfl) ?_
    show ab_E w (d + 1) mt_M_count 212 [.ref mx, .int v1] [] (I23, L, ab_RR, n, nc, ns) res
    refine ab_iload_n (i := 1) d_M_count_212 rfl rfl ?_
    refine ab_bipush (v := 18) d_M_count_213 rfl ?_
    refine ab_icmp_ne (tgt := 225) d_M_count_215 (by decide) (fun c24 => ?_) (fun c24 => ?_)
    · have h := h.1 c24
      refine ab_aload_n (i := 0) d_M_count_225 rfl rfl ?_
      refine ab_getI (ci := 11) (k := 32) d_M_count_226 v_1400 rfl (by decide) (by decide) rfl ?_
      exact h
    · have h := h.2 c24
      refine ab_aload_n (i := 0) d_M_count_218 rfl rfl ?_
      refine ab_getI (ci := 11) (k := 31) d_M_count_219 v_1399 rfl (by decide) (by decide) rfl ?_
      refine ab_goto (tgt := 229) d_M_count_222 (by decide) ?_
      exact h
  by_cases c57 : v1 = 20
  · have h := h.2.2.2.2.2.2.2.2.2.2.2.2.2.2.2.2.2.2.2.2.1 c57
    refine ab_tabIn (tgt := 230) d_M_count_6 (by rw [c57]; decide) (by rw [c57]; decide) (by rw [ab_tab_in (j := 20) c57 (by decide)]; rfl) (by decide) ?_
    refine ab_aload_n (i := 0) d_M_count_230 rfl rfl ?_
    obtain ⟨r25, I26, hC, h⟩ := h
    refine ab_callV (me2 := mt_M_centre) (b := mx) (as := []) (st := []) (rv := (some (.int r25))) (M2 := (I26, L, ab_RR, n, nc, ns)) d_M_count_231 ce_M_centre v_1727 v_1729 v_101 (by decide) rfl (Nat.le_of_ble_eq_true rfl) hC (Nat.le_refl _) (Nat.le_refl _) hc hs (fun j h9 => by cases h9) (fun _ _ => rfl) ?_
    show ab_E w (d + 1) mt_M_count 234 [.ref mx, .int v1] [.int r25] (I26, L, ab_RR, n, nc, ns) res
    exact ab_iret (ty := .int) d_M_count_234 rfl rfl h
  by_cases c58 : v1 = 21
  · have h := h.2.2.2.2.2.2.2.2.2.2.2.2.2.2.2.2.2.2.2.2.2.1 c58
    refine ab_tabIn (tgt := 235) d_M_count_6 (by rw [c58]; decide) (by rw [c58]; decide) (by rw [ab_tab_in (j := 21) c58 (by decide)]; rfl) (by decide) ?_
    refine ab_aload_n (i := 0) d_M_count_235 rfl rfl ?_
    refine ab_aload_n (i := 0) d_M_count_236 rfl rfl ?_
    obtain ⟨r27, I28, hC, h⟩ := h
    refine ab_callV (me2 := mt_M_netNow) (b := mx) (as := []) (st := [.ref mx]) (rv := (some (.int r27))) (M2 := (I28, L, ab_RR, n, nc, ns)) d_M_count_237 ce_M_netNow v_1639 v_1641 v_80 (by decide) rfl (Nat.le_of_ble_eq_true rfl) hC (Nat.le_refl _) (Nat.le_refl _) hc hs (fun j h9 => by cases h9) (fun _ _ => rfl) ?_
    show ab_E w (d + 1) mt_M_count 240 [.ref mx, .int v1] [.int r27, .ref mx] (I28, L, ab_RR, n, nc, ns) res
    refine ab_aload_n (i := 0) d_M_count_240 rfl rfl ?_
    obtain ⟨r29, I30, hC, h⟩ := h
    refine ab_callV (me2 := mt_M_centre) (b := mx) (as := []) (st := [.int r27, .ref mx]) (rv := (some (.int r29))) (M2 := (I30, L, ab_RR, n, nc, ns)) d_M_count_241 ce_M_centre v_1727 v_1729 v_101 (by decide) rfl (Nat.le_of_ble_eq_true rfl) hC (Nat.le_refl _) (Nat.le_refl _) hc hs (fun j h9 => by cases h9) (fun _ _ => rfl) ?_
    show ab_E w (d + 1) mt_M_count 244 [.ref mx, .int v1] [.int r29, .int r27, .ref mx] (I30, L, ab_RR, n, nc, ns) res
    obtain ⟨r31, I32, hC, h⟩ := h
    refine ab_callV (me2 := mt_M_farthest) (b := mx) (as := [.int r27, .int r29]) (st := []) (rv := (some (.int r31))) (M2 := (I32, L, ab_RR, n, nc, ns)) d_M_count_244 ce_M_farthest v_1731 v_1733 v_102 (by decide) rfl (Nat.le_of_ble_eq_true rfl) hC (Nat.le_refl _) (Nat.le_refl _) hc hs (fun j h9 => by cases h9) (fun _ _ => rfl) ?_
    show ab_E w (d + 1) mt_M_count 247 [.ref mx, .int v1] [.int r31] (I32, L, ab_RR, n, nc, ns) res
    exact ab_iret (ty := .int) d_M_count_247 rfl rfl h
  by_cases c59 : v1 = 22
  · have h := h.2.2.2.2.2.2.2.2.2.2.2.2.2.2.2.2.2.2.2.2.2.2.1 c59
    refine ab_tabIn (tgt := 248) d_M_count_6 (by rw [c59]; decide) (by rw [c59]; decide) (by rw [ab_tab_in (j := 22) c59 (by decide)]; rfl) (by decide) ?_
    refine ab_aload_n (i := 0) d_M_count_248 rfl rfl ?_
    obtain ⟨r33, I34, hC, h⟩ := h
    refine ab_callV (me2 := mt_M_detours) (b := mx) (as := []) (st := []) (rv := (some (.int r33))) (M2 := (I34, L, ab_RR, n, nc, ns)) d_M_count_249 ce_M_detours v_1735 v_1737 v_103 (by decide) rfl (Nat.le_of_ble_eq_true rfl) hC (Nat.le_refl _) (Nat.le_refl _) hc hs (fun j h9 => by cases h9) (fun _ _ => rfl) ?_
    show ab_E w (d + 1) mt_M_count 252 [.ref mx, .int v1] [.int r33] (I34, L, ab_RR, n, nc, ns) res
    exact ab_iret (ty := .int) d_M_count_252 rfl rfl h
  have hr : v1.toInt < 0 ∨ 22 < v1.toInt := by
    rcases Int.lt_or_le v1.toInt 0 with h9 | h9
    · exact Or.inl h9
    · refine Or.inr (Int.not_le.mp fun h8 => ?_)
      exact ab_tab_out (lo := 0) (hi := 22) (k := 23) h9 h8 (by decide) (by
        intro j hj
        match j, hj with
        | 0, _ => exact c37
        | 1, _ => exact c38
        | 2, _ => exact c39
        | 3, _ => exact c40
        | 4, _ => exact c41
        | 5, _ => exact c42
        | 6, _ => exact c43
        | 7, _ => exact c44
        | 8, _ => exact c45
        | 9, _ => exact c46
        | 10, _ => exact c47
        | 11, _ => exact c48
        | 12, _ => exact c49
        | 13, _ => exact c50
        | 14, _ => exact c51
        | 15, _ => exact c52
        | 16, _ => exact c53
        | 17, _ => exact c54
        | 18, _ => exact c55
        | 19, _ => exact c56
        | 20, _ => exact c57
        | 21, _ => exact c58
        | 22, _ => exact c59
        | j9 + 23, hj => exact absurd hj (by omega))
  have h := h.2.2.2.2.2.2.2.2.2.2.2.2.2.2.2.2.2.2.2.2.2.2.2 hr
  refine ab_tabOut (tgt := 253) d_M_count_6 hr (by decide) ?_
  refine ab_aload_n (i := 0) d_M_count_253 rfl rfl ?_
  refine ab_iconst (v := 1) d_M_count_254 rfl ?_
  obtain ⟨r35, I36, hC, h⟩ := h
  refine ab_callV (me2 := mt_M_fail) (b := mx) (as := [.int 1]) (st := []) (rv := (some (.int r35))) (M2 := (I36, L, ab_RR, n, nc, ns)) d_M_count_255 ce_M_fail v_1562 v_1564 v_66 (by decide) rfl (Nat.le_of_ble_eq_true rfl) hC (Nat.le_refl _) (Nat.le_refl _) hc hs (fun j h9 => by cases h9) (fun _ _ => rfl) ?_
  show ab_E w (d + 1) mt_M_count 258 [.ref mx, .int v1] [.int r35] (I36, L, ab_RR, n, nc, ns) res
  exact ab_iret (ty := .int) d_M_count_258 rfl rfl h
theorem q_M_count_229 {w : ab_Wd} {d n nc ns : Nat} {I : Nat → Nat → Int32} {L : Nat → Nat → Int64} {res : ab_Re} (v1 : Int32) (s0 : Int32) (hc : nc ≤ res.2.2.2.2.2.1) (hs : ns ≤ res.2.2.2.2.2.2)
    (h : res = (.inl (some (.int s0)), (I, L, ab_RR, n, nc, ns))) : ab_E w (d + 1) mt_M_count 229 [.ref mx, .int v1] [.int s0] (I, L, ab_RR, n, nc, ns) res := by
  exact ab_iret (ty := .int) d_M_count_229 rfl rfl h
theorem d_M_farthest_0 : decode (ab_bc mt_M_farthest) 0 = .ok (.iconst 0, 1) := by decide +kernel
theorem d_M_farthest_1 : decode (ab_bc mt_M_farthest) 1 = .ok (.istore_n 3, 1) := by decide +kernel
theorem d_M_farthest_2 : decode (ab_bc mt_M_farthest) 2 = .ok (.iconst 0, 1) := by decide +kernel
theorem d_M_farthest_3 : decode (ab_bc mt_M_farthest) 3 = .ok (.istore 4, 2) := by decide +kernel
theorem d_M_farthest_5 : decode (ab_bc mt_M_farthest) 5 = .ok (.iload 4, 2) := by decide +kernel
theorem d_M_farthest_7 : decode (ab_bc mt_M_farthest) 7 = .ok (.aload_n 0, 1) := by decide +kernel
theorem d_M_farthest_8 : decode (ab_bc mt_M_farthest) 8 = .ok (.getfield 21, 3) := by decide +kernel
theorem d_M_farthest_11 : decode (ab_bc mt_M_farthest) 11 = .ok (.if_icmp .ge 30, 3) := by decide +kernel
theorem d_M_farthest_14 : decode (ab_bc mt_M_farthest) 14 = .ok (.aload_n 0, 1) := by decide +kernel
theorem d_M_farthest_15 : decode (ab_bc mt_M_farthest) 15 = .ok (.iload_n 1, 1) := by decide +kernel
theorem d_M_farthest_16 : decode (ab_bc mt_M_farthest) 16 = .ok (.iload_n 2, 1) := by decide +kernel
theorem d_M_farthest_17 : decode (ab_bc mt_M_farthest) 17 = .ok (.iload 4, 2) := by decide +kernel
theorem d_M_farthest_19 : decode (ab_bc mt_M_farthest) 19 = .ok (.invokevirtual 275, 3) := by decide +kernel
theorem d_M_farthest_22 : decode (ab_bc mt_M_farthest) 22 = .ok (.iconst (-1), 1) := by decide +kernel
theorem d_M_farthest_23 : decode (ab_bc mt_M_farthest) 23 = .ok (.if_icmp .eq 12, 3) := by decide +kernel
theorem d_M_farthest_26 : decode (ab_bc mt_M_farthest) 26 = .ok (.iload_n 3, 1) := by decide +kernel
theorem d_M_farthest_27 : decode (ab_bc mt_M_farthest) 27 = .ok (.aload_n 0, 1) := by decide +kernel
theorem d_M_farthest_28 : decode (ab_bc mt_M_farthest) 28 = .ok (.invokevirtual 291, 3) := by decide +kernel
theorem d_M_farthest_31 : decode (ab_bc mt_M_farthest) 31 = .ok (.invokestatic 225, 3) := by decide +kernel
theorem d_M_farthest_34 : decode (ab_bc mt_M_farthest) 34 = .ok (.istore_n 3, 1) := by decide +kernel
theorem d_M_farthest_35 : decode (ab_bc mt_M_farthest) 35 = .ok (.iinc 4 1, 3) := by decide +kernel
theorem d_M_farthest_38 : decode (ab_bc mt_M_farthest) 38 = .ok (.goto (-33), 3) := by decide +kernel
theorem d_M_farthest_41 : decode (ab_bc mt_M_farthest) 41 = .ok (.iload_n 3, 1) := by decide +kernel
theorem d_M_farthest_42 : decode (ab_bc mt_M_farthest) 42 = .ok (.ireturn, 1) := by decide +kernel
-- CableKeeperModel.farthest(II)I over mx
theorem q_M_farthest_0 {w : ab_Wd} {d n nc ns : Nat} {I : Nat → Nat → Int32} {L : Nat → Nat → Int64} {res : ab_Re} (v1 : Int32) (v2 : Int32) (hc : nc ≤ res.2.2.2.2.2.1) (hs : ns ≤ res.2.2.2.2.2.2)
    (h : ab_E w (d + 1) mt_M_farthest 5 [.ref mx, .int v1, .int v2, .int 0, .int 0] [] (I, L, ab_RR, n, nc, ns) res) : ab_E w (d + 1) mt_M_farthest 0 [.ref mx, .int v1, .int v2, .null, .null] [] (I, L, ab_RR, n, nc, ns) res := by
  refine ab_iconst (v := 0) d_M_farthest_0 rfl ?_
  refine ab_istore_n (i := 3) d_M_farthest_1 rfl (by decide) (Or.inr rfl) ?_
  refine ab_iconst (v := 0) d_M_farthest_2 rfl ?_
  refine ab_istore (i := 4) d_M_farthest_3 (by decide) (Or.inr rfl) ?_
  exact h
theorem q_M_farthest_5 {w : ab_Wd} {d n nc ns : Nat} {I : Nat → Nat → Int32} {L : Nat → Nat → Int64} {res : ab_Re} (v1 : Int32) (v2 : Int32) (v3 : Int32) (v4 : Int32) (hc : nc ≤ res.2.2.2.2.2.1) (hs : ns ≤ res.2.2.2.2.2.2)
    (h : (((I mx 2) ≤ v4 → (res = (.inl (some (.int v3)), (I, L, ab_RR, n, nc, ns)))) ∧ (¬ (I mx 2) ≤ v4 → (∃ (r2 : Int32) (I3 : Nat → Nat → Int32), ab_C w d mt_M_tellWay [.ref mx, .int v1, .int v2, .int v4] (I, L, ab_RR, n, nc, ns) (.inl (some (.int r2)), (I3, L, ab_RR, n, nc, ns)) ∧ ((r2 = (-1) → (ab_E w (d + 1) mt_M_farthest 35 [.ref mx, .int v1, .int v2, .int v3, .int v4] [] (I3, L, ab_RR, n, nc, ns) res)) ∧ (¬ r2 = (-1) → (∃ (r5 : Int32), ab_C w d mt_M_pricesOnWay [.ref mx] (I3, L, ab_RR, n, nc, ns) (.inl (some (.int r5)), (I3, L, ab_RR, n, nc, ns)) ∧ ab_E w (d + 1) mt_M_farthest 35 [.ref mx, .int v1, .int v2, .int (ab_max32 v3 r5), .int v4] [] (I3, L, ab_RR, n, nc, ns) res))))))) : ab_E w (d + 1) mt_M_farthest 5 [.ref mx, .int v1, .int v2, .int v3, .int v4] [] (I, L, ab_RR, n, nc, ns) res := by
  refine ab_iload (i := 4) d_M_farthest_5 rfl ?_
  refine ab_aload_n (i := 0) d_M_farthest_7 rfl rfl ?_
  refine ab_getI (ci := 11) (k := 2) d_M_farthest_8 v_1370 rfl (by decide) (by decide) rfl ?_
  refine ab_icmp_ge (tgt := 41) d_M_farthest_11 (by decide) (fun c1 => ?_) (fun c1 => ?_)
  · have h := h.1 c1
    refine ab_iload_n (i := 3) d_M_farthest_41 rfl rfl ?_
    exact ab_iret (ty := .int) d_M_farthest_42 rfl rfl h
  · have h := h.2 c1
    refine ab_aload_n (i := 0) d_M_farthest_14 rfl rfl ?_
    refine ab_iload_n (i := 1) d_M_farthest_15 rfl rfl ?_
    refine ab_iload_n (i := 2) d_M_farthest_16 rfl rfl ?_
    refine ab_iload (i := 4) d_M_farthest_17 rfl ?_
    obtain ⟨r2, I3, hC, h⟩ := h
    refine ab_callV (me2 := mt_M_tellWay) (b := mx) (as := [.int v1, .int v2, .int v4]) (st := []) (rv := (some (.int r2))) (M2 := (I3, L, ab_RR, n, nc, ns)) d_M_farthest_19 ce_M_tellWay v_1687 v_1689 v_91 (by decide) rfl (Nat.le_of_ble_eq_true rfl) hC (Nat.le_refl _) (Nat.le_refl _) hc hs (fun j h9 => by cases h9) (fun _ _ => rfl) ?_
    show ab_E w (d + 1) mt_M_farthest 22 [.ref mx, .int v1, .int v2, .int v3, .int v4] [.int r2] (I3, L, ab_RR, n, nc, ns) res
    refine ab_iconst (v := (-1)) d_M_farthest_22 rfl ?_
    refine ab_icmp_eq (tgt := 35) d_M_farthest_23 (by decide) (fun c4 => ?_) (fun c4 => ?_)
    · have h := h.1 c4
      exact h
    · have h := h.2 c4
      refine ab_iload_n (i := 3) d_M_farthest_26 rfl rfl ?_
      refine ab_aload_n (i := 0) d_M_farthest_27 rfl rfl ?_
      obtain ⟨r5, hC, h⟩ := h
      refine ab_callV (me2 := mt_M_pricesOnWay) (b := mx) (as := []) (st := [.int v3]) (rv := (some (.int r5))) (M2 := (I3, L, ab_RR, n, nc, ns)) d_M_farthest_28 ce_M_pricesOnWay v_1711 v_1713 v_97 (by decide) rfl (Nat.le_of_ble_eq_true rfl) hC (Nat.le_refl _) (Nat.le_refl _) hc hs (fun j h9 => by cases h9) (fun _ _ => rfl) ?_
      show ab_E w (d + 1) mt_M_farthest 31 [.ref mx, .int v1, .int v2, .int v3, .int v4] [.int r5, .int v3] (I3, L, ab_RR, n, nc, ns) res
      refine ab_max d_M_farthest_31 v_1662 v_451 v_150 v_452 (Nat.succ_le_succ (Nat.zero_le _)) (Nat.le_of_ble_eq_true rfl) hc hs ?_
      refine ab_istore_n (i := 3) d_M_farthest_34 rfl (by decide) (Or.inr rfl) ?_
      exact h
theorem q_M_farthest_35 {w : ab_Wd} {d n nc ns : Nat} {I : Nat → Nat → Int32} {L : Nat → Nat → Int64} {res : ab_Re} (v1 : Int32) (v2 : Int32) (v3 : Int32) (v4 : Int32) (hc : nc ≤ res.2.2.2.2.2.1) (hs : ns ≤ res.2.2.2.2.2.2)
    (h : ab_E w (d + 1) mt_M_farthest 5 [.ref mx, .int v1, .int v2, .int v3, .int (v4 + 1)] [] (I, L, ab_RR, n, nc, ns) res) : ab_E w (d + 1) mt_M_farthest 35 [.ref mx, .int v1, .int v2, .int v3, .int v4] [] (I, L, ab_RR, n, nc, ns) res := by
  refine ab_iinc (i := 4) (v := (v4 + 1)) d_M_farthest_35 rfl rfl (by decide) (Or.inr rfl) ?_
  refine ab_goto (tgt := 5) d_M_farthest_38 (by decide) ?_
  exact h
theorem d_M_centre_0 : decode (ab_bc mt_M_centre) 0 = .ok (.aload_n 0, 1) := by decide +kernel
theorem d_M_centre_1 : decode (ab_bc mt_M_centre) 1 = .ok (.invokevirtual 251, 3) := by decide +kernel
theorem d_M_centre_4 : decode (ab_bc mt_M_centre) 4 = .ok (.istore_n 1, 1) := by decide +kernel
theorem d_M_centre_5 : decode (ab_bc mt_M_centre) 5 = .ok (.iconst 0, 1) := by decide +kernel
theorem d_M_centre_6 : decode (ab_bc mt_M_centre) 6 = .ok (.istore_n 2, 1) := by decide +kernel
theorem d_M_centre_7 : decode (ab_bc mt_M_centre) 7 = .ok (.iconst 1, 1) := by decide +kernel
theorem d_M_centre_8 : decode (ab_bc mt_M_centre) 8 = .ok (.istore_n 3, 1) := by decide +kernel
theorem d_M_centre_9 : decode (ab_bc mt_M_centre) 9 = .ok (.iload_n 3, 1) := by decide +kernel
theorem d_M_centre_10 : decode (ab_bc mt_M_centre) 10 = .ok (.aload_n 0, 1) := by decide +kernel
theorem d_M_centre_11 : decode (ab_bc mt_M_centre) 11 = .ok (.getfield 21, 3) := by decide +kernel
theorem d_M_centre_14 : decode (ab_bc mt_M_centre) 14 = .ok (.if_icmp .ge 30, 3) := by decide +kernel
theorem d_M_centre_17 : decode (ab_bc mt_M_centre) 17 = .ok (.aload_n 0, 1) := by decide +kernel
theorem d_M_centre_18 : decode (ab_bc mt_M_centre) 18 = .ok (.iload_n 1, 1) := by decide +kernel
theorem d_M_centre_19 : decode (ab_bc mt_M_centre) 19 = .ok (.iload_n 3, 1) := by decide +kernel
theorem d_M_centre_20 : decode (ab_bc mt_M_centre) 20 = .ok (.invokevirtual 324, 3) := by decide +kernel
theorem d_M_centre_23 : decode (ab_bc mt_M_centre) 23 = .ok (.aload_n 0, 1) := by decide +kernel
theorem d_M_centre_24 : decode (ab_bc mt_M_centre) 24 = .ok (.iload_n 1, 1) := by decide +kernel
theorem d_M_centre_25 : decode (ab_bc mt_M_centre) 25 = .ok (.iload_n 2, 1) := by decide +kernel
theorem d_M_centre_26 : decode (ab_bc mt_M_centre) 26 = .ok (.invokevirtual 324, 3) := by decide +kernel
theorem d_M_centre_29 : decode (ab_bc mt_M_centre) 29 = .ok (.if_icmp .ge 7, 3) := by decide +kernel
theorem d_M_centre_32 : decode (ab_bc mt_M_centre) 32 = .ok (.iload_n 3, 1) := by decide +kernel
theorem d_M_centre_33 : decode (ab_bc mt_M_centre) 33 = .ok (.goto 4, 3) := by decide +kernel
theorem d_M_centre_36 : decode (ab_bc mt_M_centre) 36 = .ok (.iload_n 2, 1) := by decide +kernel
theorem d_M_centre_37 : decode (ab_bc mt_M_centre) 37 = .ok (.istore_n 2, 1) := by decide +kernel
theorem d_M_centre_38 : decode (ab_bc mt_M_centre) 38 = .ok (.iinc 3 1, 3) := by decide +kernel
theorem d_M_centre_41 : decode (ab_bc mt_M_centre) 41 = .ok (.goto (-32), 3) := by decide +kernel
theorem d_M_centre_44 : decode (ab_bc mt_M_centre) 44 = .ok (.iload_n 2, 1) := by decide +kernel
theorem d_M_centre_45 : decode (ab_bc mt_M_centre) 45 = .ok (.ireturn, 1) := by decide +kernel
-- CableKeeperModel.centre()I over mx
theorem q_M_centre_0 {w : ab_Wd} {d n nc ns : Nat} {I : Nat → Nat → Int32} {L : Nat → Nat → Int64} {res : ab_Re}  (hc : nc ≤ res.2.2.2.2.2.1) (hs : ns ≤ res.2.2.2.2.2.2)
    (h : ∃ (r1 : Int32) (I2 : Nat → Nat → Int32), ab_C w d mt_M_netNow [.ref mx] (I, L, ab_RR, n, nc, ns) (.inl (some (.int r1)), (I2, L, ab_RR, n, nc, ns)) ∧ ab_E w (d + 1) mt_M_centre 9 [.ref mx, .int r1, .int 0, .int 1] [] (I2, L, ab_RR, n, nc, ns) res) : ab_E w (d + 1) mt_M_centre 0 [.ref mx, .null, .null, .null] [] (I, L, ab_RR, n, nc, ns) res := by
  refine ab_aload_n (i := 0) d_M_centre_0 rfl rfl ?_
  obtain ⟨r1, I2, hC, h⟩ := h
  refine ab_callV (me2 := mt_M_netNow) (b := mx) (as := []) (st := []) (rv := (some (.int r1))) (M2 := (I2, L, ab_RR, n, nc, ns)) d_M_centre_1 ce_M_netNow v_1639 v_1641 v_80 (by decide) rfl (Nat.le_of_ble_eq_true rfl) hC (Nat.le_refl _) (Nat.le_refl _) hc hs (fun j h9 => by cases h9) (fun _ _ => rfl) ?_
  show ab_E w (d + 1) mt_M_centre 4 [.ref mx, .null, .null, .null] [.int r1] (I2, L, ab_RR, n, nc, ns) res
  refine ab_istore_n (i := 1) d_M_centre_4 rfl (by decide) (Or.inr rfl) ?_
  refine ab_iconst (v := 0) d_M_centre_5 rfl ?_
  refine ab_istore_n (i := 2) d_M_centre_6 rfl (by decide) (Or.inr rfl) ?_
  refine ab_iconst (v := 1) d_M_centre_7 rfl ?_
  refine ab_istore_n (i := 3) d_M_centre_8 rfl (by decide) (Or.inr rfl) ?_
  exact h
theorem q_M_centre_9 {w : ab_Wd} {d n nc ns : Nat} {I : Nat → Nat → Int32} {L : Nat → Nat → Int64} {res : ab_Re} (v1 : Int32) (v2 : Int32) (v3 : Int32) (hc : nc ≤ res.2.2.2.2.2.1) (hs : ns ≤ res.2.2.2.2.2.2)
    (h : (((I mx 2) ≤ v3 → (res = (.inl (some (.int v2)), (I, L, ab_RR, n, nc, ns)))) ∧ (¬ (I mx 2) ≤ v3 → (∃ (r2 : Int32) (I3 : Nat → Nat → Int32), ab_C w d mt_M_farthest [.ref mx, .int v1, .int v3] (I, L, ab_RR, n, nc, ns) (.inl (some (.int r2)), (I3, L, ab_RR, n, nc, ns)) ∧ ∃ (r4 : Int32) (I5 : Nat → Nat → Int32), ab_C w d mt_M_farthest [.ref mx, .int v1, .int v2] (I3, L, ab_RR, n, nc, ns) (.inl (some (.int r4)), (I5, L, ab_RR, n, nc, ns)) ∧ ((r4 ≤ r2 → (ab_E w (d + 1) mt_M_centre 37 [.ref mx, .int v1, .int v2, .int v3] [.int v2] (I5, L, ab_RR, n, nc, ns) res)) ∧ (¬ r4 ≤ r2 → (ab_E w (d + 1) mt_M_centre 37 [.ref mx, .int v1, .int v2, .int v3] [.int v3] (I5, L, ab_RR, n, nc, ns) res))))))) : ab_E w (d + 1) mt_M_centre 9 [.ref mx, .int v1, .int v2, .int v3] [] (I, L, ab_RR, n, nc, ns) res := by
  refine ab_iload_n (i := 3) d_M_centre_9 rfl rfl ?_
  refine ab_aload_n (i := 0) d_M_centre_10 rfl rfl ?_
  refine ab_getI (ci := 11) (k := 2) d_M_centre_11 v_1370 rfl (by decide) (by decide) rfl ?_
  refine ab_icmp_ge (tgt := 44) d_M_centre_14 (by decide) (fun c1 => ?_) (fun c1 => ?_)
  · have h := h.1 c1
    refine ab_iload_n (i := 2) d_M_centre_44 rfl rfl ?_
    exact ab_iret (ty := .int) d_M_centre_45 rfl rfl h
  · have h := h.2 c1
    refine ab_aload_n (i := 0) d_M_centre_17 rfl rfl ?_
    refine ab_iload_n (i := 1) d_M_centre_18 rfl rfl ?_
    refine ab_iload_n (i := 3) d_M_centre_19 rfl rfl ?_
    obtain ⟨r2, I3, hC, h⟩ := h
    refine ab_callV (me2 := mt_M_farthest) (b := mx) (as := [.int v1, .int v3]) (st := []) (rv := (some (.int r2))) (M2 := (I3, L, ab_RR, n, nc, ns)) d_M_centre_20 ce_M_farthest v_1731 v_1733 v_102 (by decide) rfl (Nat.le_of_ble_eq_true rfl) hC (Nat.le_refl _) (Nat.le_refl _) hc hs (fun j h9 => by cases h9) (fun _ _ => rfl) ?_
    show ab_E w (d + 1) mt_M_centre 23 [.ref mx, .int v1, .int v2, .int v3] [.int r2] (I3, L, ab_RR, n, nc, ns) res
    refine ab_aload_n (i := 0) d_M_centre_23 rfl rfl ?_
    refine ab_iload_n (i := 1) d_M_centre_24 rfl rfl ?_
    refine ab_iload_n (i := 2) d_M_centre_25 rfl rfl ?_
    obtain ⟨r4, I5, hC, h⟩ := h
    refine ab_callV (me2 := mt_M_farthest) (b := mx) (as := [.int v1, .int v2]) (st := [.int r2]) (rv := (some (.int r4))) (M2 := (I5, L, ab_RR, n, nc, ns)) d_M_centre_26 ce_M_farthest v_1731 v_1733 v_102 (by decide) rfl (Nat.le_of_ble_eq_true rfl) hC (Nat.le_refl _) (Nat.le_refl _) hc hs (fun j h9 => by cases h9) (fun _ _ => rfl) ?_
    show ab_E w (d + 1) mt_M_centre 29 [.ref mx, .int v1, .int v2, .int v3] [.int r4, .int r2] (I5, L, ab_RR, n, nc, ns) res
    refine ab_icmp_ge (tgt := 36) d_M_centre_29 (by decide) (fun c6 => ?_) (fun c6 => ?_)
    · have h := h.1 c6
      refine ab_iload_n (i := 2) d_M_centre_36 rfl rfl ?_
      exact h
    · have h := h.2 c6
      refine ab_iload_n (i := 3) d_M_centre_32 rfl rfl ?_
      refine ab_goto (tgt := 37) d_M_centre_33 (by decide) ?_
      exact h
theorem q_M_centre_37 {w : ab_Wd} {d n nc ns : Nat} {I : Nat → Nat → Int32} {L : Nat → Nat → Int64} {res : ab_Re} (v1 : Int32) (v2 : Int32) (v3 : Int32) (s0 : Int32) (hc : nc ≤ res.2.2.2.2.2.1) (hs : ns ≤ res.2.2.2.2.2.2)
    (h : ab_E w (d + 1) mt_M_centre 9 [.ref mx, .int v1, .int s0, .int (v3 + 1)] [] (I, L, ab_RR, n, nc, ns) res) : ab_E w (d + 1) mt_M_centre 37 [.ref mx, .int v1, .int v2, .int v3] [.int s0] (I, L, ab_RR, n, nc, ns) res := by
  refine ab_istore_n (i := 2) d_M_centre_37 rfl (by decide) (Or.inr rfl) ?_
  refine ab_iinc (i := 3) (v := (v3 + 1)) d_M_centre_38 rfl rfl (by decide) (Or.inr rfl) ?_
  refine ab_goto (tgt := 9) d_M_centre_41 (by decide) ?_
  exact h
