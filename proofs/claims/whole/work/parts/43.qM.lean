theorem d_M_cable_0 : decode (ab_bc mt_M_cable) 0 = .ok (.aload_n 0, 1) := by decide +kernel
theorem d_M_cable_1 : decode (ab_bc mt_M_cable) 1 = .ok (.iconst 0, 1) := by decide +kernel
theorem d_M_cable_2 : decode (ab_bc mt_M_cable) 2 = .ok (.putfield 108, 3) := by decide +kernel
theorem d_M_cable_5 : decode (ab_bc mt_M_cable) 5 = .ok (.aload_n 0, 1) := by decide +kernel
theorem d_M_cable_6 : decode (ab_bc mt_M_cable) 6 = .ok (.iload_n 1, 1) := by decide +kernel
theorem d_M_cable_7 : decode (ab_bc mt_M_cable) 7 = .ok (.invokevirtual 348, 3) := by decide +kernel
theorem d_M_cable_10 : decode (ab_bc mt_M_cable) 10 = .ok (.ifCond .ne 9, 3) := by decide +kernel
theorem d_M_cable_13 : decode (ab_bc mt_M_cable) 13 = .ok (.aload_n 0, 1) := by decide +kernel
theorem d_M_cable_14 : decode (ab_bc mt_M_cable) 14 = .ok (.iconst 1, 1) := by decide +kernel
theorem d_M_cable_15 : decode (ab_bc mt_M_cable) 15 = .ok (.invokevirtual 202, 3) := by decide +kernel
theorem d_M_cable_18 : decode (ab_bc mt_M_cable) 18 = .ok (.ireturn, 1) := by decide +kernel
theorem d_M_cable_19 : decode (ab_bc mt_M_cable) 19 = .ok (.aload_n 0, 1) := by decide +kernel
theorem d_M_cable_20 : decode (ab_bc mt_M_cable) 20 = .ok (.invokevirtual 251, 3) := by decide +kernel
theorem d_M_cable_23 : decode (ab_bc mt_M_cable) 23 = .ok (.istore_n 3, 1) := by decide +kernel
theorem d_M_cable_24 : decode (ab_bc mt_M_cable) 24 = .ok (.iload_n 2, 1) := by decide +kernel
theorem d_M_cable_25 : decode (ab_bc mt_M_cable) 25 = .ok (.tableswitch 191 0 11 #[63, 72, 82, 88, 98, 112, 126, 133, 151, 158, 165, 171], 63) := by decide +kernel
theorem d_M_cable_88 : decode (ab_bc mt_M_cable) 88 = .ok (.aload_n 0, 1) := by decide +kernel
theorem d_M_cable_89 : decode (ab_bc mt_M_cable) 89 = .ok (.getfield 24, 3) := by decide +kernel
theorem d_M_cable_92 : decode (ab_bc mt_M_cable) 92 = .ok (.iconst 3, 1) := by decide +kernel
theorem d_M_cable_93 : decode (ab_bc mt_M_cable) 93 = .ok (.iload_n 1, 1) := by decide +kernel
theorem d_M_cable_94 : decode (ab_bc mt_M_cable) 94 = .ok (.iadd, 1) := by decide +kernel
theorem d_M_cable_95 : decode (ab_bc mt_M_cable) 95 = .ok (.iaload, 1) := by decide +kernel
theorem d_M_cable_96 : decode (ab_bc mt_M_cable) 96 = .ok (.ireturn, 1) := by decide +kernel
theorem d_M_cable_97 : decode (ab_bc mt_M_cable) 97 = .ok (.aload_n 0, 1) := by decide +kernel
theorem d_M_cable_98 : decode (ab_bc mt_M_cable) 98 = .ok (.getfield 24, 3) := by decide +kernel
theorem d_M_cable_101 : decode (ab_bc mt_M_cable) 101 = .ok (.bipush 27, 2) := by decide +kernel
theorem d_M_cable_103 : decode (ab_bc mt_M_cable) 103 = .ok (.iload_n 1, 1) := by decide +kernel
theorem d_M_cable_104 : decode (ab_bc mt_M_cable) 104 = .ok (.iadd, 1) := by decide +kernel
theorem d_M_cable_105 : decode (ab_bc mt_M_cable) 105 = .ok (.iaload, 1) := by decide +kernel
theorem d_M_cable_106 : decode (ab_bc mt_M_cable) 106 = .ok (.ireturn, 1) := by decide +kernel
theorem d_M_cable_107 : decode (ab_bc mt_M_cable) 107 = .ok (.aload_n 0, 1) := by decide +kernel
theorem d_M_cable_108 : decode (ab_bc mt_M_cable) 108 = .ok (.iload_n 1, 1) := by decide +kernel
theorem d_M_cable_109 : decode (ab_bc mt_M_cable) 109 = .ok (.invokevirtual 222, 3) := by decide +kernel
theorem d_M_cable_112 : decode (ab_bc mt_M_cable) 112 = .ok (.ireturn, 1) := by decide +kernel
theorem d_M_cable_113 : decode (ab_bc mt_M_cable) 113 = .ok (.aload_n 0, 1) := by decide +kernel
theorem d_M_cable_114 : decode (ab_bc mt_M_cable) 114 = .ok (.getfield 24, 3) := by decide +kernel
theorem d_M_cable_117 : decode (ab_bc mt_M_cable) 117 = .ok (.bipush 75, 2) := by decide +kernel
theorem d_M_cable_119 : decode (ab_bc mt_M_cable) 119 = .ok (.iload_n 1, 1) := by decide +kernel
theorem d_M_cable_120 : decode (ab_bc mt_M_cable) 120 = .ok (.iadd, 1) := by decide +kernel
theorem d_M_cable_121 : decode (ab_bc mt_M_cable) 121 = .ok (.iaload, 1) := by decide +kernel
theorem d_M_cable_122 : decode (ab_bc mt_M_cable) 122 = .ok (.ireturn, 1) := by decide +kernel
theorem d_M_cable_123 : decode (ab_bc mt_M_cable) 123 = .ok (.aload_n 0, 1) := by decide +kernel
theorem d_M_cable_124 : decode (ab_bc mt_M_cable) 124 = .ok (.iload_n 1, 1) := by decide +kernel
theorem d_M_cable_125 : decode (ab_bc mt_M_cable) 125 = .ok (.invokevirtual 262, 3) := by decide +kernel
theorem d_M_cable_128 : decode (ab_bc mt_M_cable) 128 = .ok (.ifCond .eq 7, 3) := by decide +kernel
theorem d_M_cable_131 : decode (ab_bc mt_M_cable) 131 = .ok (.iconst 1, 1) := by decide +kernel
theorem d_M_cable_132 : decode (ab_bc mt_M_cable) 132 = .ok (.goto 4, 3) := by decide +kernel
theorem d_M_cable_135 : decode (ab_bc mt_M_cable) 135 = .ok (.iconst 0, 1) := by decide +kernel
theorem d_M_cable_136 : decode (ab_bc mt_M_cable) 136 = .ok (.ireturn, 1) := by decide +kernel
theorem d_M_cable_137 : decode (ab_bc mt_M_cable) 137 = .ok (.iload_n 3, 1) := by decide +kernel
theorem d_M_cable_138 : decode (ab_bc mt_M_cable) 138 = .ok (.iload_n 1, 1) := by decide +kernel
theorem d_M_cable_139 : decode (ab_bc mt_M_cable) 139 = .ok (.invokestatic 237, 3) := by decide +kernel
theorem d_M_cable_142 : decode (ab_bc mt_M_cable) 142 = .ok (.ifCond .eq 7, 3) := by decide +kernel
theorem d_M_cable_145 : decode (ab_bc mt_M_cable) 145 = .ok (.iconst 1, 1) := by decide +kernel
theorem d_M_cable_146 : decode (ab_bc mt_M_cable) 146 = .ok (.goto 4, 3) := by decide +kernel
theorem d_M_cable_149 : decode (ab_bc mt_M_cable) 149 = .ok (.iconst 0, 1) := by decide +kernel
theorem d_M_cable_150 : decode (ab_bc mt_M_cable) 150 = .ok (.ireturn, 1) := by decide +kernel
theorem d_M_cable_151 : decode (ab_bc mt_M_cable) 151 = .ok (.aload_n 0, 1) := by decide +kernel
theorem d_M_cable_152 : decode (ab_bc mt_M_cable) 152 = .ok (.iload_n 3, 1) := by decide +kernel
theorem d_M_cable_153 : decode (ab_bc mt_M_cable) 153 = .ok (.iload_n 1, 1) := by decide +kernel
theorem d_M_cable_154 : decode (ab_bc mt_M_cable) 154 = .ok (.invokevirtual 282, 3) := by decide +kernel
theorem d_M_cable_157 : decode (ab_bc mt_M_cable) 157 = .ok (.ireturn, 1) := by decide +kernel
theorem d_M_cable_158 : decode (ab_bc mt_M_cable) 158 = .ok (.aload_n 0, 1) := by decide +kernel
theorem d_M_cable_159 : decode (ab_bc mt_M_cable) 159 = .ok (.iload_n 3, 1) := by decide +kernel
theorem d_M_cable_160 : decode (ab_bc mt_M_cable) 160 = .ok (.iload_n 1, 1) := by decide +kernel
theorem d_M_cable_161 : decode (ab_bc mt_M_cable) 161 = .ok (.invokevirtual 282, 3) := by decide +kernel
theorem d_M_cable_164 : decode (ab_bc mt_M_cable) 164 = .ok (.ifCond .ne 7, 3) := by decide +kernel
theorem d_M_cable_167 : decode (ab_bc mt_M_cable) 167 = .ok (.iconst (-1), 1) := by decide +kernel
theorem d_M_cable_168 : decode (ab_bc mt_M_cable) 168 = .ok (.goto 7, 3) := by decide +kernel
theorem d_M_cable_171 : decode (ab_bc mt_M_cable) 171 = .ok (.aload_n 0, 1) := by decide +kernel
theorem d_M_cable_172 : decode (ab_bc mt_M_cable) 172 = .ok (.invokevirtual 285, 3) := by decide +kernel
theorem d_M_cable_175 : decode (ab_bc mt_M_cable) 175 = .ok (.ireturn, 1) := by decide +kernel
theorem d_M_cable_176 : decode (ab_bc mt_M_cable) 176 = .ok (.aload_n 0, 1) := by decide +kernel
theorem d_M_cable_177 : decode (ab_bc mt_M_cable) 177 = .ok (.iload_n 3, 1) := by decide +kernel
theorem d_M_cable_178 : decode (ab_bc mt_M_cable) 178 = .ok (.iload_n 1, 1) := by decide +kernel
theorem d_M_cable_179 : decode (ab_bc mt_M_cable) 179 = .ok (.invokevirtual 279, 3) := by decide +kernel
theorem d_M_cable_182 : decode (ab_bc mt_M_cable) 182 = .ok (.ireturn, 1) := by decide +kernel
theorem d_M_cable_183 : decode (ab_bc mt_M_cable) 183 = .ok (.aload_n 0, 1) := by decide +kernel
theorem d_M_cable_184 : decode (ab_bc mt_M_cable) 184 = .ok (.iload_n 3, 1) := by decide +kernel
theorem d_M_cable_185 : decode (ab_bc mt_M_cable) 185 = .ok (.iload_n 1, 1) := by decide +kernel
theorem d_M_cable_186 : decode (ab_bc mt_M_cable) 186 = .ok (.invokevirtual 351, 3) := by decide +kernel
theorem d_M_cable_189 : decode (ab_bc mt_M_cable) 189 = .ok (.ireturn, 1) := by decide +kernel
theorem d_M_cable_190 : decode (ab_bc mt_M_cable) 190 = .ok (.aload_n 0, 1) := by decide +kernel
theorem d_M_cable_191 : decode (ab_bc mt_M_cable) 191 = .ok (.iload_n 1, 1) := by decide +kernel
theorem d_M_cable_192 : decode (ab_bc mt_M_cable) 192 = .ok (.invokevirtual 354, 3) := by decide +kernel
theorem d_M_cable_195 : decode (ab_bc mt_M_cable) 195 = .ok (.ireturn, 1) := by decide +kernel
theorem d_M_cable_196 : decode (ab_bc mt_M_cable) 196 = .ok (.aload_n 0, 1) := by decide +kernel
theorem d_M_cable_197 : decode (ab_bc mt_M_cable) 197 = .ok (.iload_n 1, 1) := by decide +kernel
theorem d_M_cable_198 : decode (ab_bc mt_M_cable) 198 = .ok (.invokevirtual 262, 3) := by decide +kernel
theorem d_M_cable_201 : decode (ab_bc mt_M_cable) 201 = .ok (.ifCond .eq 13, 3) := by decide +kernel
theorem d_M_cable_204 : decode (ab_bc mt_M_cable) 204 = .ok (.aload_n 0, 1) := by decide +kernel
theorem d_M_cable_205 : decode (ab_bc mt_M_cable) 205 = .ok (.iconst 1, 1) := by decide +kernel
theorem d_M_cable_206 : decode (ab_bc mt_M_cable) 206 = .ok (.iload_n 1, 1) := by decide +kernel
theorem d_M_cable_207 : decode (ab_bc mt_M_cable) 207 = .ok (.ishl, 1) := by decide +kernel
theorem d_M_cable_208 : decode (ab_bc mt_M_cable) 208 = .ok (.invokevirtual 338, 3) := by decide +kernel
theorem d_M_cable_211 : decode (ab_bc mt_M_cable) 211 = .ok (.goto 4, 3) := by decide +kernel
theorem d_M_cable_214 : decode (ab_bc mt_M_cable) 214 = .ok (.iconst (-1), 1) := by decide +kernel
theorem d_M_cable_215 : decode (ab_bc mt_M_cable) 215 = .ok (.ireturn, 1) := by decide +kernel
theorem d_M_cable_216 : decode (ab_bc mt_M_cable) 216 = .ok (.aload_n 0, 1) := by decide +kernel
theorem d_M_cable_217 : decode (ab_bc mt_M_cable) 217 = .ok (.iconst 1, 1) := by decide +kernel
theorem d_M_cable_218 : decode (ab_bc mt_M_cable) 218 = .ok (.invokevirtual 202, 3) := by decide +kernel
theorem d_M_cable_221 : decode (ab_bc mt_M_cable) 221 = .ok (.ireturn, 1) := by decide +kernel
-- CableKeeperModel.cable(II)I over mx
theorem q_M_cable_0 {w : ab_Wd} {d n nc ns : Nat} {I : Nat → Nat → Int32} {L : Nat → Nat → Int64} {res : ab_Re} (v1 : Int32) (v2 : Int32) (hc : nc ≤ res.2.2.2.2.2.1) (hs : ns ≤ res.2.2.2.2.2.2)
    (h : ∃ (r1 : Int32), ab_C w d mt_M_isCable [.ref mx, .int v1] ((ab_up I mx 1 0), L, ab_RR, n, nc, ns) (.inl (some (.int r1)), ((ab_up I mx 1 0), L, ab_RR, n, nc, ns)) ∧ ((¬ r1 = 0 → (∃ (r3 : Int32) (I4 : Nat → Nat → Int32), ab_C w d mt_M_netNow [.ref mx] ((ab_up I mx 1 0), L, ab_RR, n, nc, ns) (.inl (some (.int r3)), (I4, L, ab_RR, n, nc, ns)) ∧ ((v2 = 0 → ((vp_in (3 + v1) 399) ∧ res = (.inl (some (.int (I4 mx_now (3 + v1).toNatClampNeg))), (I4, L, ab_RR, n, nc, ns)))) ∧ (v2 = 1 → ((vp_in (27 + v1) 399) ∧ res = (.inl (some (.int (I4 mx_now (27 + v1).toNatClampNeg))), (I4, L, ab_RR, n, nc, ns)))) ∧ (v2 = 2 → (∃ (r7 : Int32), ab_C w d mt_M_priceOf [.ref mx, .int v1] (I4, L, ab_RR, n, nc, ns) (.inl (some (.int r7)), (I4, L, ab_RR, n, nc, ns)) ∧ res = (.inl (some (.int r7)), (I4, L, ab_RR, n, nc, ns)))) ∧ (v2 = 3 → ((vp_in (75 + v1) 399) ∧ res = (.inl (some (.int (I4 mx_now (75 + v1).toNatClampNeg))), (I4, L, ab_RR, n, nc, ns)))) ∧ (v2 = 4 → (∃ (r9 : Int32), ab_C w d mt_M_isSound [.ref mx, .int v1] (I4, L, ab_RR, n, nc, ns) (.inl (some (.int r9)), (I4, L, ab_RR, n, nc, ns)) ∧ ((r9 = 0 → (ab_E w (d + 1) mt_M_cable 136 [.ref mx, .int v1, .int v2, .int r3] [.int 0] (I4, L, ab_RR, n, nc, ns) res)) ∧ (¬ r9 = 0 → (ab_E w (d + 1) mt_M_cable 136 [.ref mx, .int v1, .int v2, .int r3] [.int 1] (I4, L, ab_RR, n, nc, ns) res))))) ∧ (v2 = 5 → (∃ (r11 : Int32), ab_C w d mt_M_has [.int r3, .int v1] (I4, L, ab_RR, n, nc, ns) (.inl (some (.int r11)), (I4, L, ab_RR, n, nc, ns)) ∧ ((r11 = 0 → (ab_E w (d + 1) mt_M_cable 150 [.ref mx, .int v1, .int v2, .int r3] [.int 0] (I4, L, ab_RR, n, nc, ns) res)) ∧ (¬ r11 = 0 → (ab_E w (d + 1) mt_M_cable 150 [.ref mx, .int v1, .int v2, .int r3] [.int 1] (I4, L, ab_RR, n, nc, ns) res))))) ∧ (v2 = 6 → (∃ (r13 : Int32) (I14 : Nat → Nat → Int32), ab_C w d mt_M_tellRing [.ref mx, .int r3, .int v1] (I4, L, ab_RR, n, nc, ns) (.inl (some (.int r13)), (I14, L, ab_RR, n, nc, ns)) ∧ res = (.inl (some (.int r13)), (I14, L, ab_RR, n, nc, ns)))) ∧ (v2 = 7 → (∃ (r15 : Int32) (I16 : Nat → Nat → Int32), ab_C w d mt_M_tellRing [.ref mx, .int r3, .int v1] (I4, L, ab_RR, n, nc, ns) (.inl (some (.int r15)), (I16, L, ab_RR, n, nc, ns)) ∧ ((¬ r15 = 0 → (∃ (r18 : Int32), ab_C w d mt_M_dearestOnWay [.ref mx] (I16, L, ab_RR, n, nc, ns) (.inl (some (.int r18)), (I16, L, ab_RR, n, nc, ns)) ∧ ab_E w (d + 1) mt_M_cable 175 [.ref mx, .int v1, .int v2, .int r3] [.int r18] (I16, L, ab_RR, n, nc, ns) res)) ∧ (r15 = 0 → (ab_E w (d + 1) mt_M_cable 175 [.ref mx, .int v1, .int v2, .int r3] [.int (-1)] (I16, L, ab_RR, n, nc, ns) res))))) ∧ (v2 = 8 → (∃ (r19 : Int32) (I20 : Nat → Nat → Int32), ab_C w d mt_M_cutOf [.ref mx, .int r3, .int v1] (I4, L, ab_RR, n, nc, ns) (.inl (some (.int r19)), (I20, L, ab_RR, n, nc, ns)) ∧ res = (.inl (some (.int r19)), (I20, L, ab_RR, n, nc, ns)))) ∧ (v2 = 9 → (∃ (r21 : Int32) (I22 : Nat → Nat → Int32), ab_C w d mt_M_rivalOf [.ref mx, .int r3, .int v1] (I4, L, ab_RR, n, nc, ns) (.inl (some (.int r21)), (I22, L, ab_RR, n, nc, ns)) ∧ res = (.inl (some (.int r21)), (I22, L, ab_RR, n, nc, ns)))) ∧ (v2 = 10 → (∃ (r23 : Int32) (I24 : Nat → Nat → Int32), ab_C w d mt_M_barOf [.ref mx, .int v1] (I4, L, ab_RR, n, nc, ns) (.inl (some (.int r23)), (I24, L, ab_RR, n, nc, ns)) ∧ res = (.inl (some (.int r23)), (I24, L, ab_RR, n, nc, ns)))) ∧ (v2 = 11 → (∃ (r25 : Int32), ab_C w d mt_M_isSound [.ref mx, .int v1] (I4, L, ab_RR, n, nc, ns) (.inl (some (.int r25)), (I4, L, ab_RR, n, nc, ns)) ∧ ((r25 = 0 → (ab_E w (d + 1) mt_M_cable 215 [.ref mx, .int v1, .int v2, .int r3] [.int (-1)] (I4, L, ab_RR, n, nc, ns) res)) ∧ (¬ r25 = 0 → (∃ (r27 : Int32) (I28 : Nat → Nat → Int32), ab_C w d mt_M_lossOf [.ref mx, .int ((1 : Int32) <<< (v1 &&& 31))] (I4, L, ab_RR, n, nc, ns) (.inl (some (.int r27)), (I28, L, ab_RR, n, nc, ns)) ∧ ab_E w (d + 1) mt_M_cable 215 [.ref mx, .int v1, .int v2, .int r3] [.int r27] (I28, L, ab_RR, n, nc, ns) res))))) ∧ ((v2.toInt < 0 ∨ 11 < v2.toInt) → (∃ (r29 : Int32) (I30 : Nat → Nat → Int32), ab_C w d mt_M_fail [.ref mx, .int 1] (I4, L, ab_RR, n, nc, ns) (.inl (some (.int r29)), (I30, L, ab_RR, n, nc, ns)) ∧ res = (.inl (some (.int r29)), (I30, L, ab_RR, n, nc, ns))))))) ∧ (r1 = 0 → (∃ (r43 : Int32) (I44 : Nat → Nat → Int32), ab_C w d mt_M_fail [.ref mx, .int 1] ((ab_up I mx 1 0), L, ab_RR, n, nc, ns) (.inl (some (.int r43)), (I44, L, ab_RR, n, nc, ns)) ∧ res = (.inl (some (.int r43)), (I44, L, ab_RR, n, nc, ns)))))) : ab_E w (d + 1) mt_M_cable 0 [.ref mx, .int v1, .int v2, .null] [] (I, L, ab_RR, n, nc, ns) res := by
  refine ab_aload_n (i := 0) d_M_cable_0 rfl rfl ?_
  refine ab_iconst (v := 0) d_M_cable_1 rfl ?_
  refine ab_putI (ci := 11) (k := 1) d_M_cable_2 v_1369 rfl (by decide) (by decide) rfl (Or.inl rfl) rfl rfl ?_
  refine ab_aload_n (i := 0) d_M_cable_5 rfl rfl ?_
  refine ab_iload_n (i := 1) d_M_cable_6 rfl rfl ?_
  obtain ⟨r1, hC, h⟩ := h
  refine ab_callV (me2 := mt_M_isCable) (b := mx) (as := [.int v1]) (st := []) (rv := (some (.int r1))) (M2 := ((ab_up I mx 1 0), L, ab_RR, n, nc, ns)) d_M_cable_7 ce_M_isCable v_1748 v_1750 v_105 (by decide) rfl (Nat.le_of_ble_eq_true rfl) hC (Nat.le_refl _) (Nat.le_refl _) hc hs (fun j h9 => by cases h9) (fun _ _ => rfl) ?_
  show ab_E w (d + 1) mt_M_cable 10 [.ref mx, .int v1, .int v2, .null] [.int r1] ((ab_up I mx 1 0), L, ab_RR, n, nc, ns) res
  refine ab_if_ne (tgt := 19) d_M_cable_10 (by decide) (fun c2 => ?_) (fun c2 => ?_)
  · have h := h.1 c2
    refine ab_aload_n (i := 0) d_M_cable_19 rfl rfl ?_
    obtain ⟨r3, I4, hC, h⟩ := h
    refine ab_callV (me2 := mt_M_netNow) (b := mx) (as := []) (st := []) (rv := (some (.int r3))) (M2 := (I4, L, ab_RR, n, nc, ns)) d_M_cable_20 ce_M_netNow v_1639 v_1641 v_80 (by decide) rfl (Nat.le_of_ble_eq_true rfl) hC (Nat.le_refl _) (Nat.le_refl _) hc hs (fun j h9 => by cases h9) (fun _ _ => rfl) ?_
    show ab_E w (d + 1) mt_M_cable 23 [.ref mx, .int v1, .int v2, .null] [.int r3] (I4, L, ab_RR, n, nc, ns) res
    refine ab_istore_n (i := 3) d_M_cable_23 rfl (by decide) (Or.inr rfl) ?_
    refine ab_iload_n (i := 2) d_M_cable_24 rfl rfl ?_
    by_cases c31 : v2 = 0
    · have h := h.1 c31
      refine ab_tabIn (tgt := 88) d_M_cable_25 (by rw [c31]; decide) (by rw [c31]; decide) (by rw [ab_tab_in (j := 0) c31 (by decide)]; rfl) (by decide) ?_
      refine ab_aload_n (i := 0) d_M_cable_88 rfl rfl ?_
      refine ab_getR (ci := 11) (k := 4) (j := mx_now) d_M_cable_89 v_1372 rfl (by decide) (by decide) rfl r_mx_4 ?_
      refine ab_iconst (v := 3) d_M_cable_92 rfl ?_
      refine ab_iload_n (i := 1) d_M_cable_93 rfl rfl ?_
      refine ab_iadd d_M_cable_94 ?_
      have g5 := h.1; have h := h.2
      refine ab_iald d_M_cable_95 rfl rfl g5 ?_
      exact ab_iret (ty := .int) d_M_cable_96 rfl rfl h
    by_cases c32 : v2 = 1
    · have h := h.2.1 c32
      refine ab_tabIn (tgt := 97) d_M_cable_25 (by rw [c32]; decide) (by rw [c32]; decide) (by rw [ab_tab_in (j := 1) c32 (by decide)]; rfl) (by decide) ?_
      refine ab_aload_n (i := 0) d_M_cable_97 rfl rfl ?_
      refine ab_getR (ci := 11) (k := 4) (j := mx_now) d_M_cable_98 v_1372 rfl (by decide) (by decide) rfl r_mx_4 ?_
      refine ab_bipush (v := 27) d_M_cable_101 rfl ?_
      refine ab_iload_n (i := 1) d_M_cable_103 rfl rfl ?_
      refine ab_iadd d_M_cable_104 ?_
      have g6 := h.1; have h := h.2
      refine ab_iald d_M_cable_105 rfl rfl g6 ?_
      exact ab_iret (ty := .int) d_M_cable_106 rfl rfl h
    by_cases c33 : v2 = 2
    · have h := h.2.2.1 c33
      refine ab_tabIn (tgt := 107) d_M_cable_25 (by rw [c33]; decide) (by rw [c33]; decide) (by rw [ab_tab_in (j := 2) c33 (by decide)]; rfl) (by decide) ?_
      refine ab_aload_n (i := 0) d_M_cable_107 rfl rfl ?_
      refine ab_iload_n (i := 1) d_M_cable_108 rfl rfl ?_
      obtain ⟨r7, hC, h⟩ := h
      refine ab_callV (me2 := mt_M_priceOf) (b := mx) (as := [.int v1]) (st := []) (rv := (some (.int r7))) (M2 := (I4, L, ab_RR, n, nc, ns)) d_M_cable_109 ce_M_priceOf v_1654 v_1656 v_83 (by decide) rfl (Nat.le_of_ble_eq_true rfl) hC (Nat.le_refl _) (Nat.le_refl _) hc hs (fun j h9 => by cases h9) (fun _ _ => rfl) ?_
      show ab_E w (d + 1) mt_M_cable 112 [.ref mx, .int v1, .int v2, .int r3] [.int r7] (I4, L, ab_RR, n, nc, ns) res
      exact ab_iret (ty := .int) d_M_cable_112 rfl rfl h
    by_cases c34 : v2 = 3
    · have h := h.2.2.2.1 c34
      refine ab_tabIn (tgt := 113) d_M_cable_25 (by rw [c34]; decide) (by rw [c34]; decide) (by rw [ab_tab_in (j := 3) c34 (by decide)]; rfl) (by decide) ?_
      refine ab_aload_n (i := 0) d_M_cable_113 rfl rfl ?_
      refine ab_getR (ci := 11) (k := 4) (j := mx_now) d_M_cable_114 v_1372 rfl (by decide) (by decide) rfl r_mx_4 ?_
      refine ab_bipush (v := 75) d_M_cable_117 rfl ?_
      refine ab_iload_n (i := 1) d_M_cable_119 rfl rfl ?_
      refine ab_iadd d_M_cable_120 ?_
      have g8 := h.1; have h := h.2
      refine ab_iald d_M_cable_121 rfl rfl g8 ?_
      exact ab_iret (ty := .int) d_M_cable_122 rfl rfl h
    by_cases c35 : v2 = 4
    · have h := h.2.2.2.2.1 c35
      refine ab_tabIn (tgt := 123) d_M_cable_25 (by rw [c35]; decide) (by rw [c35]; decide) (by rw [ab_tab_in (j := 4) c35 (by decide)]; rfl) (by decide) ?_
      refine ab_aload_n (i := 0) d_M_cable_123 rfl rfl ?_
      refine ab_iload_n (i := 1) d_M_cable_124 rfl rfl ?_
      obtain ⟨r9, hC, h⟩ := h
      refine ab_callV (me2 := mt_M_isSound) (b := mx) (as := [.int v1]) (st := []) (rv := (some (.int r9))) (M2 := (I4, L, ab_RR, n, nc, ns)) d_M_cable_125 ce_M_isSound v_1679 v_1681 v_89 (by decide) rfl (Nat.le_of_ble_eq_true rfl) hC (Nat.le_refl _) (Nat.le_refl _) hc hs (fun j h9 => by cases h9) (fun _ _ => rfl) ?_
      show ab_E w (d + 1) mt_M_cable 128 [.ref mx, .int v1, .int v2, .int r3] [.int r9] (I4, L, ab_RR, n, nc, ns) res
      refine ab_if_eq (tgt := 135) d_M_cable_128 (by decide) (fun c10 => ?_) (fun c10 => ?_)
      · have h := h.1 c10
        refine ab_iconst (v := 0) d_M_cable_135 rfl ?_
        exact h
      · have h := h.2 c10
        refine ab_iconst (v := 1) d_M_cable_131 rfl ?_
        refine ab_goto (tgt := 136) d_M_cable_132 (by decide) ?_
        exact h
    by_cases c36 : v2 = 5
    · have h := h.2.2.2.2.2.1 c36
      refine ab_tabIn (tgt := 137) d_M_cable_25 (by rw [c36]; decide) (by rw [c36]; decide) (by rw [ab_tab_in (j := 5) c36 (by decide)]; rfl) (by decide) ?_
      refine ab_iload_n (i := 3) d_M_cable_137 rfl rfl ?_
      refine ab_iload_n (i := 1) d_M_cable_138 rfl rfl ?_
      obtain ⟨r11, hC, h⟩ := h
      refine ab_callS (me2 := mt_M_has) (as := [.int r3, .int v1]) (st := []) (rv := (some (.int r11))) (M2 := (I4, L, ab_RR, n, nc, ns)) d_M_cable_139 ce_M_has ⟨v_1648, Or.inl v_1647⟩ (Nat.le_of_ble_eq_true rfl) hC (Nat.le_refl _) (Nat.le_refl _) hc hs (fun j h9 => by cases h9) (fun _ _ => rfl) ?_
      show ab_E w (d + 1) mt_M_cable 142 [.ref mx, .int v1, .int v2, .int r3] [.int r11] (I4, L, ab_RR, n, nc, ns) res
      refine ab_if_eq (tgt := 149) d_M_cable_142 (by decide) (fun c12 => ?_) (fun c12 => ?_)
      · have h := h.1 c12
        refine ab_iconst (v := 0) d_M_cable_149 rfl ?_
        exact h
      · have h := h.2 c12
        refine ab_iconst (v := 1) d_M_cable_145 rfl ?_
        refine ab_goto (tgt := 150) d_M_cable_146 (by decide) ?_
        exact h
    by_cases c37 : v2 = 6
    · have h := h.2.2.2.2.2.2.1 c37
      refine ab_tabIn (tgt := 151) d_M_cable_25 (by rw [c37]; decide) (by rw [c37]; decide) (by rw [ab_tab_in (j := 6) c37 (by decide)]; rfl) (by decide) ?_
      refine ab_aload_n (i := 0) d_M_cable_151 rfl rfl ?_
      refine ab_iload_n (i := 3) d_M_cable_152 rfl rfl ?_
      refine ab_iload_n (i := 1) d_M_cable_153 rfl rfl ?_
      obtain ⟨r13, I14, hC, h⟩ := h
      refine ab_callV (me2 := mt_M_tellRing) (b := mx) (as := [.int r3, .int v1]) (st := []) (rv := (some (.int r13))) (M2 := (I14, L, ab_RR, n, nc, ns)) d_M_cable_154 ce_M_tellRing v_1683 v_1685 v_90 (by decide) rfl (Nat.le_of_ble_eq_true rfl) hC (Nat.le_refl _) (Nat.le_refl _) hc hs (fun j h9 => by cases h9) (fun _ _ => rfl) ?_
      show ab_E w (d + 1) mt_M_cable 157 [.ref mx, .int v1, .int v2, .int r3] [.int r13] (I14, L, ab_RR, n, nc, ns) res
      exact ab_iret (ty := .int) d_M_cable_157 rfl rfl h
    by_cases c38 : v2 = 7
    · have h := h.2.2.2.2.2.2.2.1 c38
      refine ab_tabIn (tgt := 158) d_M_cable_25 (by rw [c38]; decide) (by rw [c38]; decide) (by rw [ab_tab_in (j := 7) c38 (by decide)]; rfl) (by decide) ?_
      refine ab_aload_n (i := 0) d_M_cable_158 rfl rfl ?_
      refine ab_iload_n (i := 3) d_M_cable_159 rfl rfl ?_
      refine ab_iload_n (i := 1) d_M_cable_160 rfl rfl ?_
      obtain ⟨r15, I16, hC, h⟩ := h
      refine ab_callV (me2 := mt_M_tellRing) (b := mx) (as := [.int r3, .int v1]) (st := []) (rv := (some (.int r15))) (M2 := (I16, L, ab_RR, n, nc, ns)) d_M_cable_161 ce_M_tellRing v_1683 v_1685 v_90 (by decide) rfl (Nat.le_of_ble_eq_true rfl) hC (Nat.le_refl _) (Nat.le_refl _) hc hs (fun j h9 => by cases h9) (fun _ _ => rfl) ?_
      show ab_E w (d + 1) mt_M_cable 164 [.ref mx, .int v1, .int v2, .int r3] [.int r15] (I16, L, ab_RR, n, nc, ns) res
      refine ab_if_ne (tgt := 171) d_M_cable_164 (by decide) (fun c17 => ?_) (fun c17 => ?_)
      · have h := h.1 c17
        refine ab_aload_n (i := 0) d_M_cable_171 rfl rfl ?_
        obtain ⟨r18, hC, h⟩ := h
        refine ab_callV (me2 := mt_M_dearestOnWay) (b := mx) (as := []) (st := []) (rv := (some (.int r18))) (M2 := (I16, L, ab_RR, n, nc, ns)) d_M_cable_172 ce_M_dearestOnWay v_1695 v_1697 v_93 (by decide) rfl (Nat.le_of_ble_eq_true rfl) hC (Nat.le_refl _) (Nat.le_refl _) hc hs (fun j h9 => by cases h9) (fun _ _ => rfl) ?_
        show ab_E w (d + 1) mt_M_cable 175 [.ref mx, .int v1, .int v2, .int r3] [.int r18] (I16, L, ab_RR, n, nc, ns) res
        exact h
      · have h := h.2 c17
        refine ab_iconst (v := (-1)) d_M_cable_167 rfl ?_
        refine ab_goto (tgt := 175) d_M_cable_168 (by decide) ?_
        exact h
    by_cases c39 : v2 = 8
    · have h := h.2.2.2.2.2.2.2.2.1 c39
      refine ab_tabIn (tgt := 176) d_M_cable_25 (by rw [c39]; decide) (by rw [c39]; decide) (by rw [ab_tab_in (j := 8) c39 (by decide)]; rfl) (by decide) ?_
      refine ab_aload_n (i := 0) d_M_cable_176 rfl rfl ?_
      refine ab_iload_n (i := 3) d_M_cable_177 rfl rfl ?_
      refine ab_iload_n (i := 1) d_M_cable_178 rfl rfl ?_
      obtain ⟨r19, I20, hC, h⟩ := h
      refine ab_callV (me2 := mt_M_cutOf) (b := mx) (as := [.int r3, .int v1]) (st := []) (rv := (some (.int r19))) (M2 := (I20, L, ab_RR, n, nc, ns)) d_M_cable_179 ce_M_cutOf v_1755 v_1757 v_106 (by decide) rfl (Nat.le_of_ble_eq_true rfl) hC (Nat.le_refl _) (Nat.le_refl _) hc hs (fun j h9 => by cases h9) (fun _ _ => rfl) ?_
      show ab_E w (d + 1) mt_M_cable 182 [.ref mx, .int v1, .int v2, .int r3] [.int r19] (I20, L, ab_RR, n, nc, ns) res
      exact ab_iret (ty := .int) d_M_cable_182 rfl rfl h
    by_cases c40 : v2 = 9
    · have h := h.2.2.2.2.2.2.2.2.2.1 c40
      refine ab_tabIn (tgt := 183) d_M_cable_25 (by rw [c40]; decide) (by rw [c40]; decide) (by rw [ab_tab_in (j := 9) c40 (by decide)]; rfl) (by decide) ?_
      refine ab_aload_n (i := 0) d_M_cable_183 rfl rfl ?_
      refine ab_iload_n (i := 3) d_M_cable_184 rfl rfl ?_
      refine ab_iload_n (i := 1) d_M_cable_185 rfl rfl ?_
      obtain ⟨r21, I22, hC, h⟩ := h
      refine ab_callV (me2 := mt_M_rivalOf) (b := mx) (as := [.int r3, .int v1]) (st := []) (rv := (some (.int r21))) (M2 := (I22, L, ab_RR, n, nc, ns)) d_M_cable_186 ce_M_rivalOf v_1759 v_1761 v_107 (by decide) rfl (Nat.le_of_ble_eq_true rfl) hC (Nat.le_refl _) (Nat.le_refl _) hc hs (fun j h9 => by cases h9) (fun _ _ => rfl) ?_
      show ab_E w (d + 1) mt_M_cable 189 [.ref mx, .int v1, .int v2, .int r3] [.int r21] (I22, L, ab_RR, n, nc, ns) res
      exact ab_iret (ty := .int) d_M_cable_189 rfl rfl h
    by_cases c41 : v2 = 10
    · have h := h.2.2.2.2.2.2.2.2.2.2.1 c41
      refine ab_tabIn (tgt := 190) d_M_cable_25 (by rw [c41]; decide) (by rw [c41]; decide) (by rw [ab_tab_in (j := 10) c41 (by decide)]; rfl) (by decide) ?_
      refine ab_aload_n (i := 0) d_M_cable_190 rfl rfl ?_
      refine ab_iload_n (i := 1) d_M_cable_191 rfl rfl ?_
      obtain ⟨r23, I24, hC, h⟩ := h
      refine ab_callV (me2 := mt_M_barOf) (b := mx) (as := [.int v1]) (st := []) (rv := (some (.int r23))) (M2 := (I24, L, ab_RR, n, nc, ns)) d_M_cable_192 ce_M_barOf v_1763 v_1765 v_108 (by decide) rfl (Nat.le_of_ble_eq_true rfl) hC (Nat.le_refl _) (Nat.le_refl _) hc hs (fun j h9 => by cases h9) (fun _ _ => rfl) ?_
      show ab_E w (d + 1) mt_M_cable 195 [.ref mx, .int v1, .int v2, .int r3] [.int r23] (I24, L, ab_RR, n, nc, ns) res
      exact ab_iret (ty := .int) d_M_cable_195 rfl rfl h
    by_cases c42 : v2 = 11
    · have h := h.2.2.2.2.2.2.2.2.2.2.2.1 c42
      refine ab_tabIn (tgt := 196) d_M_cable_25 (by rw [c42]; decide) (by rw [c42]; decide) (by rw [ab_tab_in (j := 11) c42 (by decide)]; rfl) (by decide) ?_
      refine ab_aload_n (i := 0) d_M_cable_196 rfl rfl ?_
      refine ab_iload_n (i := 1) d_M_cable_197 rfl rfl ?_
      obtain ⟨r25, hC, h⟩ := h
      refine ab_callV (me2 := mt_M_isSound) (b := mx) (as := [.int v1]) (st := []) (rv := (some (.int r25))) (M2 := (I4, L, ab_RR, n, nc, ns)) d_M_cable_198 ce_M_isSound v_1679 v_1681 v_89 (by decide) rfl (Nat.le_of_ble_eq_true rfl) hC (Nat.le_refl _) (Nat.le_refl _) hc hs (fun j h9 => by cases h9) (fun _ _ => rfl) ?_
      show ab_E w (d + 1) mt_M_cable 201 [.ref mx, .int v1, .int v2, .int r3] [.int r25] (I4, L, ab_RR, n, nc, ns) res
      refine ab_if_eq (tgt := 214) d_M_cable_201 (by decide) (fun c26 => ?_) (fun c26 => ?_)
      · have h := h.1 c26
        refine ab_iconst (v := (-1)) d_M_cable_214 rfl ?_
        exact h
      · have h := h.2 c26
        refine ab_aload_n (i := 0) d_M_cable_204 rfl rfl ?_
        refine ab_iconst (v := 1) d_M_cable_205 rfl ?_
        refine ab_iload_n (i := 1) d_M_cable_206 rfl rfl ?_
        refine ab_ishl d_M_cable_207 ?_
        obtain ⟨r27, I28, hC, h⟩ := h
        refine ab_callV (me2 := mt_M_lossOf) (b := mx) (as := [.int ((1 : Int32) <<< (v1 &&& 31))]) (st := []) (rv := (some (.int r27))) (M2 := (I28, L, ab_RR, n, nc, ns)) d_M_cable_208 ce_M_lossOf v_1767 v_1769 v_109 (by decide) rfl (Nat.le_of_ble_eq_true rfl) hC (Nat.le_refl _) (Nat.le_refl _) hc hs (fun j h9 => by cases h9) (fun _ _ => rfl) ?_
        show ab_E w (d + 1) mt_M_cable 211 [.ref mx, .int v1, .int v2, .int r3] [.int r27] (I28, L, ab_RR, n, nc, ns) res
        refine ab_goto (tgt := 215) d_M_cable_211 (by decide) ?_
        exact h
    have hr : v2.toInt < 0 ∨ 11 < v2.toInt := by
      rcases Int.lt_or_le v2.toInt 0 with h9 | h9
      · exact Or.inl h9
      · refine Or.inr (Int.not_le.mp fun h8 => ?_)
        exact ab_tab_out (lo := 0) (hi := 11) (k := 12) h9 h8 (by decide) (by
          intro j hj
          match j, hj with
          | 0, _ => exact c31
          | 1, _ => exact c32
          | 2, _ => exact c33
          | 3, _ => exact c34
          | 4, _ => exact c35
          | 5, _ => exact c36
          | 6, _ => exact c37
          | 7, _ => exact c38
          | 8, _ => exact c39
          | 9, _ => exact c40
          | 10, _ => exact c41
          | 11, _ => exact c42
          | j9 + 12, hj => exact absurd hj (by omega))
    have h := h.2.2.2.2.2.2.2.2.2.2.2.2 hr
    refine ab_tabOut (tgt := 216) d_M_cable_25 hr (by decide) ?_
    refine ab_aload_n (i := 0) d_M_cable_216 rfl rfl ?_
    refine ab_iconst (v := 1) d_M_cable_217 rfl ?_
    obtain ⟨r29, I30, hC, h⟩ := h
    refine ab_callV (me2 := mt_M_fail) (b := mx) (as := [.int 1]) (st := []) (rv := (some (.int r29))) (M2 := (I30, L, ab_RR, n, nc, ns)) d_M_cable_218 ce_M_fail v_1562 v_1564 v_66 (by decide) rfl (Nat.le_of_ble_eq_true rfl) hC (Nat.le_refl _) (Nat.le_refl _) hc hs (fun j h9 => by cases h9) (fun _ _ => rfl) ?_
    show ab_E w (d + 1) mt_M_cable 221 [.ref mx, .int v1, .int v2, .int r3] [.int r29] (I30, L, ab_RR, n, nc, ns) res
    exact ab_iret (ty := .int) d_M_cable_221 rfl rfl h
  · have h := h.2 c2
    refine ab_aload_n (i := 0) d_M_cable_13 rfl rfl ?_
    refine ab_iconst (v := 1) d_M_cable_14 rfl ?_
    obtain ⟨r43, I44, hC, h⟩ := h
    refine ab_callV (me2 := mt_M_fail) (b := mx) (as := [.int 1]) (st := []) (rv := (some (.int r43))) (M2 := (I44, L, ab_RR, n, nc, ns)) d_M_cable_15 ce_M_fail v_1562 v_1564 v_66 (by decide) rfl (Nat.le_of_ble_eq_true rfl) hC (Nat.le_refl _) (Nat.le_refl _) hc hs (fun j h9 => by cases h9) (fun _ _ => rfl) ?_
    show ab_E w (d + 1) mt_M_cable 18 [.ref mx, .int v1, .int v2, .null] [.int r43] (I44, L, ab_RR, n, nc, ns) res
    exact ab_iret (ty := .int) d_M_cable_18 rfl rfl h
theorem q_M_cable_136 {w : ab_Wd} {d n nc ns : Nat} {I : Nat → Nat → Int32} {L : Nat → Nat → Int64} {res : ab_Re} (v1 : Int32) (v2 : Int32) (v3 : Int32) (s0 : Int32) (hc : nc ≤ res.2.2.2.2.2.1) (hs : ns ≤ res.2.2.2.2.2.2)
    (h : res = (.inl (some (.int s0)), (I, L, ab_RR, n, nc, ns))) : ab_E w (d + 1) mt_M_cable 136 [.ref mx, .int v1, .int v2, .int v3] [.int s0] (I, L, ab_RR, n, nc, ns) res := by
  exact ab_iret (ty := .int) d_M_cable_136 rfl rfl h
theorem q_M_cable_150 {w : ab_Wd} {d n nc ns : Nat} {I : Nat → Nat → Int32} {L : Nat → Nat → Int64} {res : ab_Re} (v1 : Int32) (v2 : Int32) (v3 : Int32) (s0 : Int32) (hc : nc ≤ res.2.2.2.2.2.1) (hs : ns ≤ res.2.2.2.2.2.2)
    (h : res = (.inl (some (.int s0)), (I, L, ab_RR, n, nc, ns))) : ab_E w (d + 1) mt_M_cable 150 [.ref mx, .int v1, .int v2, .int v3] [.int s0] (I, L, ab_RR, n, nc, ns) res := by
  exact ab_iret (ty := .int) d_M_cable_150 rfl rfl h
theorem q_M_cable_175 {w : ab_Wd} {d n nc ns : Nat} {I : Nat → Nat → Int32} {L : Nat → Nat → Int64} {res : ab_Re} (v1 : Int32) (v2 : Int32) (v3 : Int32) (s0 : Int32) (hc : nc ≤ res.2.2.2.2.2.1) (hs : ns ≤ res.2.2.2.2.2.2)
    (h : res = (.inl (some (.int s0)), (I, L, ab_RR, n, nc, ns))) : ab_E w (d + 1) mt_M_cable 175 [.ref mx, .int v1, .int v2, .int v3] [.int s0] (I, L, ab_RR, n, nc, ns) res := by
  exact ab_iret (ty := .int) d_M_cable_175 rfl rfl h
theorem q_M_cable_215 {w : ab_Wd} {d n nc ns : Nat} {I : Nat → Nat → Int32} {L : Nat → Nat → Int64} {res : ab_Re} (v1 : Int32) (v2 : Int32) (v3 : Int32) (s0 : Int32) (hc : nc ≤ res.2.2.2.2.2.1) (hs : ns ≤ res.2.2.2.2.2.2)
    (h : res = (.inl (some (.int s0)), (I, L, ab_RR, n, nc, ns))) : ab_E w (d + 1) mt_M_cable 215 [.ref mx, .int v1, .int v2, .int v3] [.int s0] (I, L, ab_RR, n, nc, ns) res := by
  exact ab_iret (ty := .int) d_M_cable_215 rfl rfl h
theorem d_M_ring_0 : decode (ab_bc mt_M_ring) 0 = .ok (.aload_n 0, 1) := by decide +kernel
theorem d_M_ring_1 : decode (ab_bc mt_M_ring) 1 = .ok (.iconst 0, 1) := by decide +kernel
theorem d_M_ring_2 : decode (ab_bc mt_M_ring) 2 = .ok (.putfield 108, 3) := by decide +kernel
theorem d_M_ring_5 : decode (ab_bc mt_M_ring) 5 = .ok (.aload_n 0, 1) := by decide +kernel
theorem d_M_ring_6 : decode (ab_bc mt_M_ring) 6 = .ok (.iload_n 1, 1) := by decide +kernel
theorem d_M_ring_7 : decode (ab_bc mt_M_ring) 7 = .ok (.invokevirtual 348, 3) := by decide +kernel
theorem d_M_ring_10 : decode (ab_bc mt_M_ring) 10 = .ok (.ifCond .ne 9, 3) := by decide +kernel
theorem d_M_ring_13 : decode (ab_bc mt_M_ring) 13 = .ok (.aload_n 0, 1) := by decide +kernel
theorem d_M_ring_14 : decode (ab_bc mt_M_ring) 14 = .ok (.iconst 1, 1) := by decide +kernel
theorem d_M_ring_15 : decode (ab_bc mt_M_ring) 15 = .ok (.invokevirtual 202, 3) := by decide +kernel
theorem d_M_ring_18 : decode (ab_bc mt_M_ring) 18 = .ok (.ireturn, 1) := by decide +kernel
theorem d_M_ring_19 : decode (ab_bc mt_M_ring) 19 = .ok (.iload_n 2, 1) := by decide +kernel
theorem d_M_ring_20 : decode (ab_bc mt_M_ring) 20 = .ok (.iconst 0, 1) := by decide +kernel
theorem d_M_ring_21 : decode (ab_bc mt_M_ring) 21 = .ok (.aload_n 0, 1) := by decide +kernel
theorem d_M_ring_22 : decode (ab_bc mt_M_ring) 22 = .ok (.aload_n 0, 1) := by decide +kernel
theorem d_M_ring_23 : decode (ab_bc mt_M_ring) 23 = .ok (.invokevirtual 251, 3) := by decide +kernel
theorem d_M_ring_26 : decode (ab_bc mt_M_ring) 26 = .ok (.iload_n 1, 1) := by decide +kernel
theorem d_M_ring_27 : decode (ab_bc mt_M_ring) 27 = .ok (.invokevirtual 282, 3) := by decide +kernel
theorem d_M_ring_30 : decode (ab_bc mt_M_ring) 30 = .ok (.iconst 1, 1) := by decide +kernel
theorem d_M_ring_31 : decode (ab_bc mt_M_ring) 31 = .ok (.isub, 1) := by decide +kernel
theorem d_M_ring_32 : decode (ab_bc mt_M_ring) 32 = .ok (.invokestatic 344, 3) := by decide +kernel
theorem d_M_ring_35 : decode (ab_bc mt_M_ring) 35 = .ok (.ifCond .eq 12, 3) := by decide +kernel
theorem d_M_ring_38 : decode (ab_bc mt_M_ring) 38 = .ok (.aload_n 0, 1) := by decide +kernel
theorem d_M_ring_39 : decode (ab_bc mt_M_ring) 39 = .ok (.getfield 46, 3) := by decide +kernel
theorem d_M_ring_42 : decode (ab_bc mt_M_ring) 42 = .ok (.iload_n 2, 1) := by decide +kernel
theorem d_M_ring_43 : decode (ab_bc mt_M_ring) 43 = .ok (.iaload, 1) := by decide +kernel
theorem d_M_ring_44 : decode (ab_bc mt_M_ring) 44 = .ok (.goto 8, 3) := by decide +kernel
theorem d_M_ring_47 : decode (ab_bc mt_M_ring) 47 = .ok (.aload_n 0, 1) := by decide +kernel
theorem d_M_ring_48 : decode (ab_bc mt_M_ring) 48 = .ok (.iconst 1, 1) := by decide +kernel
theorem d_M_ring_49 : decode (ab_bc mt_M_ring) 49 = .ok (.invokevirtual 202, 3) := by decide +kernel
theorem d_M_ring_52 : decode (ab_bc mt_M_ring) 52 = .ok (.ireturn, 1) := by decide +kernel
-- CableKeeperModel.ring(II)I over mx
theorem q_M_ring_0 {w : ab_Wd} {d n nc ns : Nat} {I : Nat → Nat → Int32} {L : Nat → Nat → Int64} {res : ab_Re} (v1 : Int32) (v2 : Int32) (hc : nc ≤ res.2.2.2.2.2.1) (hs : ns ≤ res.2.2.2.2.2.2)
    (h : ∃ (r1 : Int32), ab_C w d mt_M_isCable [.ref mx, .int v1] ((ab_up I mx 1 0), L, ab_RR, n, nc, ns) (.inl (some (.int r1)), ((ab_up I mx 1 0), L, ab_RR, n, nc, ns)) ∧ ((¬ r1 = 0 → (∃ (r3 : Int32) (I4 : Nat → Nat → Int32), ab_C w d mt_M_netNow [.ref mx] ((ab_up I mx 1 0), L, ab_RR, n, nc, ns) (.inl (some (.int r3)), (I4, L, ab_RR, n, nc, ns)) ∧ ∃ (r5 : Int32) (I6 : Nat → Nat → Int32), ab_C w d mt_M_tellRing [.ref mx, .int r3, .int v1] (I4, L, ab_RR, n, nc, ns) (.inl (some (.int r5)), (I6, L, ab_RR, n, nc, ns)) ∧ ∃ (r7 : Int32), ab_C w d mt_M_isIn [.int v2, .int 0, .int (r5 - 1)] (I6, L, ab_RR, n, nc, ns) (.inl (some (.int r7)), (I6, L, ab_RR, n, nc, ns)) ∧ ((r7 = 0 → (∃ (r9 : Int32) (I10 : Nat → Nat → Int32), ab_C w d mt_M_fail [.ref mx, .int 1] (I6, L, ab_RR, n, nc, ns) (.inl (some (.int r9)), (I10, L, ab_RR, n, nc, ns)) ∧ ab_E w (d + 1) mt_M_ring 52 [.ref mx, .int v1, .int v2] [.int r9] (I10, L, ab_RR, n, nc, ns) res)) ∧ (¬ r7 = 0 → ((vp_in v2 10) ∧ ab_E w (d + 1) mt_M_ring 52 [.ref mx, .int v1, .int v2] [.int (I6 mx_way v2.toNatClampNeg)] (I6, L, ab_RR, n, nc, ns) res))))) ∧ (r1 = 0 → (∃ (r12 : Int32) (I13 : Nat → Nat → Int32), ab_C w d mt_M_fail [.ref mx, .int 1] ((ab_up I mx 1 0), L, ab_RR, n, nc, ns) (.inl (some (.int r12)), (I13, L, ab_RR, n, nc, ns)) ∧ res = (.inl (some (.int r12)), (I13, L, ab_RR, n, nc, ns)))))) : ab_E w (d + 1) mt_M_ring 0 [.ref mx, .int v1, .int v2] [] (I, L, ab_RR, n, nc, ns) res := by
  refine ab_aload_n (i := 0) d_M_ring_0 rfl rfl ?_
  refine ab_iconst (v := 0) d_M_ring_1 rfl ?_
  refine ab_putI (ci := 11) (k := 1) d_M_ring_2 v_1369 rfl (by decide) (by decide) rfl (Or.inl rfl) rfl rfl ?_
  refine ab_aload_n (i := 0) d_M_ring_5 rfl rfl ?_
  refine ab_iload_n (i := 1) d_M_ring_6 rfl rfl ?_
  obtain ⟨r1, hC, h⟩ := h
  refine ab_callV (me2 := mt_M_isCable) (b := mx) (as := [.int v1]) (st := []) (rv := (some (.int r1))) (M2 := ((ab_up I mx 1 0), L, ab_RR, n, nc, ns)) d_M_ring_7 ce_M_isCable v_1748 v_1750 v_105 (by decide) rfl (Nat.le_of_ble_eq_true rfl) hC (Nat.le_refl _) (Nat.le_refl _) hc hs (fun j h9 => by cases h9) (fun _ _ => rfl) ?_
  show ab_E w (d + 1) mt_M_ring 10 [.ref mx, .int v1, .int v2] [.int r1] ((ab_up I mx 1 0), L, ab_RR, n, nc, ns) res
  refine ab_if_ne (tgt := 19) d_M_ring_10 (by decide) (fun c2 => ?_) (fun c2 => ?_)
  · have h := h.1 c2
    refine ab_iload_n (i := 2) d_M_ring_19 rfl rfl ?_
    refine ab_iconst (v := 0) d_M_ring_20 rfl ?_
    refine ab_aload_n (i := 0) d_M_ring_21 rfl rfl ?_
    refine ab_aload_n (i := 0) d_M_ring_22 rfl rfl ?_
    obtain ⟨r3, I4, hC, h⟩ := h
    refine ab_callV (me2 := mt_M_netNow) (b := mx) (as := []) (st := [.ref mx, .int 0, .int v2]) (rv := (some (.int r3))) (M2 := (I4, L, ab_RR, n, nc, ns)) d_M_ring_23 ce_M_netNow v_1639 v_1641 v_80 (by decide) rfl (Nat.le_of_ble_eq_true rfl) hC (Nat.le_refl _) (Nat.le_refl _) hc hs (fun j h9 => by cases h9) (fun _ _ => rfl) ?_
    show ab_E w (d + 1) mt_M_ring 26 [.ref mx, .int v1, .int v2] [.int r3, .ref mx, .int 0, .int v2] (I4, L, ab_RR, n, nc, ns) res
    refine ab_iload_n (i := 1) d_M_ring_26 rfl rfl ?_
    obtain ⟨r5, I6, hC, h⟩ := h
    refine ab_callV (me2 := mt_M_tellRing) (b := mx) (as := [.int r3, .int v1]) (st := [.int 0, .int v2]) (rv := (some (.int r5))) (M2 := (I6, L, ab_RR, n, nc, ns)) d_M_ring_27 ce_M_tellRing v_1683 v_1685 v_90 (by decide) rfl (Nat.le_of_ble_eq_true rfl) hC (Nat.le_refl _) (Nat.le_refl _) hc hs (fun j h9 => by cases h9) (fun _ _ => rfl) ?_
    show ab_E w (d + 1) mt_M_ring 30 [.ref mx, .int v1, .int v2] [.int r5, .int 0, .int v2] (I6, L, ab_RR, n, nc, ns) res
    refine ab_iconst (v := 1) d_M_ring_30 rfl ?_
    refine ab_isub d_M_ring_31 ?_
    obtain ⟨r7, hC, h⟩ := h
    refine ab_callS (me2 := mt_M_isIn) (as := [.int v2, .int 0, .int (r5 - 1)]) (st := []) (rv := (some (.int r7))) (M2 := (I6, L, ab_RR, n, nc, ns)) d_M_ring_32 ce_M_isIn ⟨v_1753, Or.inl v_1752⟩ (Nat.le_of_ble_eq_true rfl) hC (Nat.le_refl _) (Nat.le_refl _) hc hs (fun j h9 => by cases h9) (fun _ _ => rfl) ?_
    show ab_E w (d + 1) mt_M_ring 35 [.ref mx, .int v1, .int v2] [.int r7] (I6, L, ab_RR, n, nc, ns) res
    refine ab_if_eq (tgt := 47) d_M_ring_35 (by decide) (fun c8 => ?_) (fun c8 => ?_)
    · have h := h.1 c8
      refine ab_aload_n (i := 0) d_M_ring_47 rfl rfl ?_
      refine ab_iconst (v := 1) d_M_ring_48 rfl ?_
      obtain ⟨r9, I10, hC, h⟩ := h
      refine ab_callV (me2 := mt_M_fail) (b := mx) (as := [.int 1]) (st := []) (rv := (some (.int r9))) (M2 := (I10, L, ab_RR, n, nc, ns)) d_M_ring_49 ce_M_fail v_1562 v_1564 v_66 (by decide) rfl (Nat.le_of_ble_eq_true rfl) hC (Nat.le_refl _) (Nat.le_refl _) hc hs (fun j h9 => by cases h9) (fun _ _ => rfl) ?_
      show ab_E w (d + 1) mt_M_ring 52 [.ref mx, .int v1, .int v2] [.int r9] (I10, L, ab_RR, n, nc, ns) res
      exact h
    · have h := h.2 c8
      refine ab_aload_n (i := 0) d_M_ring_38 rfl rfl ?_
      refine ab_getR (ci := 11) (k := 23) (j := mx_way) d_M_ring_39 v_1391 rfl (by decide) (by decide) rfl r_mx_23 ?_
      refine ab_iload_n (i := 2) d_M_ring_42 rfl rfl ?_
      have g11 := h.1; have h := h.2
      refine ab_iald d_M_ring_43 rfl rfl g11 ?_
      refine ab_goto (tgt := 52) d_M_ring_44 (by decide) ?_
      exact h
  · have h := h.2 c2
    refine ab_aload_n (i := 0) d_M_ring_13 rfl rfl ?_
    refine ab_iconst (v := 1) d_M_ring_14 rfl ?_
    obtain ⟨r12, I13, hC, h⟩ := h
    refine ab_callV (me2 := mt_M_fail) (b := mx) (as := [.int 1]) (st := []) (rv := (some (.int r12))) (M2 := (I13, L, ab_RR, n, nc, ns)) d_M_ring_15 ce_M_fail v_1562 v_1564 v_66 (by decide) rfl (Nat.le_of_ble_eq_true rfl) hC (Nat.le_refl _) (Nat.le_refl _) hc hs (fun j h9 => by cases h9) (fun _ _ => rfl) ?_
    show ab_E w (d + 1) mt_M_ring 18 [.ref mx, .int v1, .int v2] [.int r12] (I13, L, ab_RR, n, nc, ns) res
    exact ab_iret (ty := .int) d_M_ring_18 rfl rfl h
theorem q_M_ring_52 {w : ab_Wd} {d n nc ns : Nat} {I : Nat → Nat → Int32} {L : Nat → Nat → Int64} {res : ab_Re} (v1 : Int32) (v2 : Int32) (s0 : Int32) (hc : nc ≤ res.2.2.2.2.2.1) (hs : ns ≤ res.2.2.2.2.2.2)
    (h : res = (.inl (some (.int s0)), (I, L, ab_RR, n, nc, ns))) : ab_E w (d + 1) mt_M_ring 52 [.ref mx, .int v1, .int v2] [.int s0] (I, L, ab_RR, n, nc, ns) res := by
  exact ab_iret (ty := .int) d_M_ring_52 rfl rfl h
theorem d_M_taken_0 : decode (ab_bc mt_M_taken) 0 = .ok (.aload_n 0, 1) := by decide +kernel
theorem d_M_taken_1 : decode (ab_bc mt_M_taken) 1 = .ok (.iconst 0, 1) := by decide +kernel
theorem d_M_taken_2 : decode (ab_bc mt_M_taken) 2 = .ok (.putfield 108, 3) := by decide +kernel
theorem d_M_taken_5 : decode (ab_bc mt_M_taken) 5 = .ok (.aload_n 0, 1) := by decide +kernel
theorem d_M_taken_6 : decode (ab_bc mt_M_taken) 6 = .ok (.invokevirtual 251, 3) := by decide +kernel
theorem d_M_taken_9 : decode (ab_bc mt_M_taken) 9 = .ok (.istore_n 2, 1) := by decide +kernel
theorem d_M_taken_10 : decode (ab_bc mt_M_taken) 10 = .ok (.iload_n 1, 1) := by decide +kernel
theorem d_M_taken_11 : decode (ab_bc mt_M_taken) 11 = .ok (.iconst 0, 1) := by decide +kernel
theorem d_M_taken_12 : decode (ab_bc mt_M_taken) 12 = .ok (.aload_n 0, 1) := by decide +kernel
theorem d_M_taken_13 : decode (ab_bc mt_M_taken) 13 = .ok (.getfield 228, 3) := by decide +kernel
theorem d_M_taken_16 : decode (ab_bc mt_M_taken) 16 = .ok (.iconst 1, 1) := by decide +kernel
theorem d_M_taken_17 : decode (ab_bc mt_M_taken) 17 = .ok (.isub, 1) := by decide +kernel
theorem d_M_taken_18 : decode (ab_bc mt_M_taken) 18 = .ok (.invokestatic 344, 3) := by decide +kernel
theorem d_M_taken_21 : decode (ab_bc mt_M_taken) 21 = .ok (.ifCond .eq 12, 3) := by decide +kernel
theorem d_M_taken_24 : decode (ab_bc mt_M_taken) 24 = .ok (.aload_n 0, 1) := by decide +kernel
theorem d_M_taken_25 : decode (ab_bc mt_M_taken) 25 = .ok (.getfield 43, 3) := by decide +kernel
theorem d_M_taken_28 : decode (ab_bc mt_M_taken) 28 = .ok (.iload_n 1, 1) := by decide +kernel
theorem d_M_taken_29 : decode (ab_bc mt_M_taken) 29 = .ok (.iaload, 1) := by decide +kernel
theorem d_M_taken_30 : decode (ab_bc mt_M_taken) 30 = .ok (.goto 8, 3) := by decide +kernel
theorem d_M_taken_33 : decode (ab_bc mt_M_taken) 33 = .ok (.aload_n 0, 1) := by decide +kernel
theorem d_M_taken_34 : decode (ab_bc mt_M_taken) 34 = .ok (.iconst 1, 1) := by decide +kernel
theorem d_M_taken_35 : decode (ab_bc mt_M_taken) 35 = .ok (.invokevirtual 202, 3) := by decide +kernel
theorem d_M_taken_38 : decode (ab_bc mt_M_taken) 38 = .ok (.ireturn, 1) := by decide +kernel
-- CableKeeperModel.taken(I)I over mx
theorem q_M_taken_0 {w : ab_Wd} {d n nc ns : Nat} {I : Nat → Nat → Int32} {L : Nat → Nat → Int64} {res : ab_Re} (v1 : Int32) (hc : nc ≤ res.2.2.2.2.2.1) (hs : ns ≤ res.2.2.2.2.2.2)
    (h : ∃ (r1 : Int32) (I2 : Nat → Nat → Int32), ab_C w d mt_M_netNow [.ref mx] ((ab_up I mx 1 0), L, ab_RR, n, nc, ns) (.inl (some (.int r1)), (I2, L, ab_RR, n, nc, ns)) ∧ ∃ (r3 : Int32), ab_C w d mt_M_isIn [.int v1, .int 0, .int ((I2 mx 21) - 1)] (I2, L, ab_RR, n, nc, ns) (.inl (some (.int r3)), (I2, L, ab_RR, n, nc, ns)) ∧ ((r3 = 0 → (∃ (r5 : Int32) (I6 : Nat → Nat → Int32), ab_C w d mt_M_fail [.ref mx, .int 1] (I2, L, ab_RR, n, nc, ns) (.inl (some (.int r5)), (I6, L, ab_RR, n, nc, ns)) ∧ ab_E w (d + 1) mt_M_taken 38 [.ref mx, .int v1, .int r1] [.int r5] (I6, L, ab_RR, n, nc, ns) res)) ∧ (¬ r3 = 0 → ((vp_in v1 24) ∧ ab_E w (d + 1) mt_M_taken 38 [.ref mx, .int v1, .int r1] [.int (I2 mx_taken v1.toNatClampNeg)] (I2, L, ab_RR, n, nc, ns) res)))) : ab_E w (d + 1) mt_M_taken 0 [.ref mx, .int v1, .null] [] (I, L, ab_RR, n, nc, ns) res := by
  refine ab_aload_n (i := 0) d_M_taken_0 rfl rfl ?_
  refine ab_iconst (v := 0) d_M_taken_1 rfl ?_
  refine ab_putI (ci := 11) (k := 1) d_M_taken_2 v_1369 rfl (by decide) (by decide) rfl (Or.inl rfl) rfl rfl ?_
  refine ab_aload_n (i := 0) d_M_taken_5 rfl rfl ?_
  obtain ⟨r1, I2, hC, h⟩ := h
  refine ab_callV (me2 := mt_M_netNow) (b := mx) (as := []) (st := []) (rv := (some (.int r1))) (M2 := (I2, L, ab_RR, n, nc, ns)) d_M_taken_6 ce_M_netNow v_1639 v_1641 v_80 (by decide) rfl (Nat.le_of_ble_eq_true rfl) hC (Nat.le_refl _) (Nat.le_refl _) hc hs (fun j h9 => by cases h9) (fun _ _ => rfl) ?_
  show ab_E w (d + 1) mt_M_taken 9 [.ref mx, .int v1, .null] [.int r1] (I2, L, ab_RR, n, nc, ns) res
  refine ab_istore_n (i := 2) d_M_taken_9 rfl (by decide) (Or.inr rfl) ?_
  refine ab_iload_n (i := 1) d_M_taken_10 rfl rfl ?_
  refine ab_iconst (v := 0) d_M_taken_11 rfl ?_
  refine ab_aload_n (i := 0) d_M_taken_12 rfl rfl ?_
  refine ab_getI (ci := 11) (k := 21) d_M_taken_13 v_1389 rfl (by decide) (by decide) rfl ?_
  refine ab_iconst (v := 1) d_M_taken_16 rfl ?_
  refine ab_isub d_M_taken_17 ?_
  obtain ⟨r3, hC, h⟩ := h
  refine ab_callS (me2 := mt_M_isIn) (as := [.int v1, .int 0, .int ((I2 mx 21) - 1)]) (st := []) (rv := (some (.int r3))) (M2 := (I2, L, ab_RR, n, nc, ns)) d_M_taken_18 ce_M_isIn ⟨v_1753, Or.inl v_1752⟩ (Nat.le_of_ble_eq_true rfl) hC (Nat.le_refl _) (Nat.le_refl _) hc hs (fun j h9 => by cases h9) (fun _ _ => rfl) ?_
  show ab_E w (d + 1) mt_M_taken 21 [.ref mx, .int v1, .int r1] [.int r3] (I2, L, ab_RR, n, nc, ns) res
  refine ab_if_eq (tgt := 33) d_M_taken_21 (by decide) (fun c4 => ?_) (fun c4 => ?_)
  · have h := h.1 c4
    refine ab_aload_n (i := 0) d_M_taken_33 rfl rfl ?_
    refine ab_iconst (v := 1) d_M_taken_34 rfl ?_
    obtain ⟨r5, I6, hC, h⟩ := h
    refine ab_callV (me2 := mt_M_fail) (b := mx) (as := [.int 1]) (st := []) (rv := (some (.int r5))) (M2 := (I6, L, ab_RR, n, nc, ns)) d_M_taken_35 ce_M_fail v_1562 v_1564 v_66 (by decide) rfl (Nat.le_of_ble_eq_true rfl) hC (Nat.le_refl _) (Nat.le_refl _) hc hs (fun j h9 => by cases h9) (fun _ _ => rfl) ?_
    show ab_E w (d + 1) mt_M_taken 38 [.ref mx, .int v1, .int r1] [.int r5] (I6, L, ab_RR, n, nc, ns) res
    exact h
  · have h := h.2 c4
    refine ab_aload_n (i := 0) d_M_taken_24 rfl rfl ?_
    refine ab_getR (ci := 11) (k := 20) (j := mx_taken) d_M_taken_25 v_1388 rfl (by decide) (by decide) rfl r_mx_20 ?_
    refine ab_iload_n (i := 1) d_M_taken_28 rfl rfl ?_
    have g7 := h.1; have h := h.2
    refine ab_iald d_M_taken_29 rfl rfl g7 ?_
    refine ab_goto (tgt := 38) d_M_taken_30 (by decide) ?_
    exact h
theorem q_M_taken_38 {w : ab_Wd} {d n nc ns : Nat} {I : Nat → Nat → Int32} {L : Nat → Nat → Int64} {res : ab_Re} (v1 : Int32) (v2 : Int32) (s0 : Int32) (hc : nc ≤ res.2.2.2.2.2.1) (hs : ns ≤ res.2.2.2.2.2.2)
    (h : res = (.inl (some (.int s0)), (I, L, ab_RR, n, nc, ns))) : ab_E w (d + 1) mt_M_taken 38 [.ref mx, .int v1, .int v2] [.int s0] (I, L, ab_RR, n, nc, ns) res := by
  exact ab_iret (ty := .int) d_M_taken_38 rfl rfl h
