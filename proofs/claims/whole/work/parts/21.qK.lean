theorem d_K_cable_0 : decode (ab_bc mt_K_cable) 0 = .ok (.aload_n 0, 1) := by decide +kernel
theorem d_K_cable_1 : decode (ab_bc mt_K_cable) 1 = .ok (.iload_n 1, 1) := by decide +kernel
theorem d_K_cable_2 : decode (ab_bc mt_K_cable) 2 = .ok (.invokevirtual 186, 3) := by decide +kernel
theorem d_K_cable_5 : decode (ab_bc mt_K_cable) 5 = .ok (.aload_n 0, 1) := by decide +kernel
theorem d_K_cable_6 : decode (ab_bc mt_K_cable) 6 = .ok (.getfield 23, 3) := by decide +kernel
theorem d_K_cable_9 : decode (ab_bc mt_K_cable) 9 = .ok (.getfield 110, 3) := by decide +kernel
theorem d_K_cable_12 : decode (ab_bc mt_K_cable) 12 = .ok (.astore_n 3, 1) := by decide +kernel
theorem d_K_cable_13 : decode (ab_bc mt_K_cable) 13 = .ok (.iload_n 2, 1) := by decide +kernel
theorem d_K_cable_14 : decode (ab_bc mt_K_cable) 14 = .ok (.tableswitch 154 0 11 #[62, 69, 76, 83, 90, 104, 118, 124, 130, 136, 142, 148], 62) := by decide +kernel
theorem d_K_cable_76 : decode (ab_bc mt_K_cable) 76 = .ok (.aload_n 3, 1) := by decide +kernel
theorem d_K_cable_77 : decode (ab_bc mt_K_cable) 77 = .ok (.getfield 189, 3) := by decide +kernel
theorem d_K_cable_80 : decode (ab_bc mt_K_cable) 80 = .ok (.iload_n 1, 1) := by decide +kernel
theorem d_K_cable_81 : decode (ab_bc mt_K_cable) 81 = .ok (.iaload, 1) := by decide +kernel
theorem d_K_cable_82 : decode (ab_bc mt_K_cable) 82 = .ok (.ireturn, 1) := by decide +kernel
theorem d_K_cable_83 : decode (ab_bc mt_K_cable) 83 = .ok (.aload_n 3, 1) := by decide +kernel
theorem d_K_cable_84 : decode (ab_bc mt_K_cable) 84 = .ok (.getfield 192, 3) := by decide +kernel
theorem d_K_cable_87 : decode (ab_bc mt_K_cable) 87 = .ok (.iload_n 1, 1) := by decide +kernel
theorem d_K_cable_88 : decode (ab_bc mt_K_cable) 88 = .ok (.iaload, 1) := by decide +kernel
theorem d_K_cable_89 : decode (ab_bc mt_K_cable) 89 = .ok (.ireturn, 1) := by decide +kernel
theorem d_K_cable_90 : decode (ab_bc mt_K_cable) 90 = .ok (.aload_n 3, 1) := by decide +kernel
theorem d_K_cable_91 : decode (ab_bc mt_K_cable) 91 = .ok (.getfield 195, 3) := by decide +kernel
theorem d_K_cable_94 : decode (ab_bc mt_K_cable) 94 = .ok (.iload_n 1, 1) := by decide +kernel
theorem d_K_cable_95 : decode (ab_bc mt_K_cable) 95 = .ok (.iaload, 1) := by decide +kernel
theorem d_K_cable_96 : decode (ab_bc mt_K_cable) 96 = .ok (.ireturn, 1) := by decide +kernel
theorem d_K_cable_97 : decode (ab_bc mt_K_cable) 97 = .ok (.aload_n 3, 1) := by decide +kernel
theorem d_K_cable_98 : decode (ab_bc mt_K_cable) 98 = .ok (.getfield 198, 3) := by decide +kernel
theorem d_K_cable_101 : decode (ab_bc mt_K_cable) 101 = .ok (.iload_n 1, 1) := by decide +kernel
theorem d_K_cable_102 : decode (ab_bc mt_K_cable) 102 = .ok (.iaload, 1) := by decide +kernel
theorem d_K_cable_103 : decode (ab_bc mt_K_cable) 103 = .ok (.ireturn, 1) := by decide +kernel
theorem d_K_cable_104 : decode (ab_bc mt_K_cable) 104 = .ok (.aload_n 3, 1) := by decide +kernel
theorem d_K_cable_105 : decode (ab_bc mt_K_cable) 105 = .ok (.iload_n 1, 1) := by decide +kernel
theorem d_K_cable_106 : decode (ab_bc mt_K_cable) 106 = .ok (.invokevirtual 201, 3) := by decide +kernel
theorem d_K_cable_109 : decode (ab_bc mt_K_cable) 109 = .ok (.ifCond .eq 7, 3) := by decide +kernel
theorem d_K_cable_112 : decode (ab_bc mt_K_cable) 112 = .ok (.iconst 1, 1) := by decide +kernel
theorem d_K_cable_113 : decode (ab_bc mt_K_cable) 113 = .ok (.goto 4, 3) := by decide +kernel
theorem d_K_cable_116 : decode (ab_bc mt_K_cable) 116 = .ok (.iconst 0, 1) := by decide +kernel
theorem d_K_cable_117 : decode (ab_bc mt_K_cable) 117 = .ok (.ireturn, 1) := by decide +kernel
theorem d_K_cable_118 : decode (ab_bc mt_K_cable) 118 = .ok (.aload_n 0, 1) := by decide +kernel
theorem d_K_cable_119 : decode (ab_bc mt_K_cable) 119 = .ok (.iload_n 1, 1) := by decide +kernel
theorem d_K_cable_120 : decode (ab_bc mt_K_cable) 120 = .ok (.invokevirtual 205, 3) := by decide +kernel
theorem d_K_cable_123 : decode (ab_bc mt_K_cable) 123 = .ok (.ifCond .eq 7, 3) := by decide +kernel
theorem d_K_cable_126 : decode (ab_bc mt_K_cable) 126 = .ok (.iconst 1, 1) := by decide +kernel
theorem d_K_cable_127 : decode (ab_bc mt_K_cable) 127 = .ok (.goto 4, 3) := by decide +kernel
theorem d_K_cable_130 : decode (ab_bc mt_K_cable) 130 = .ok (.iconst 0, 1) := by decide +kernel
theorem d_K_cable_131 : decode (ab_bc mt_K_cable) 131 = .ok (.ireturn, 1) := by decide +kernel
theorem d_K_cable_132 : decode (ab_bc mt_K_cable) 132 = .ok (.aload_n 0, 1) := by decide +kernel
theorem d_K_cable_133 : decode (ab_bc mt_K_cable) 133 = .ok (.iload_n 1, 1) := by decide +kernel
theorem d_K_cable_134 : decode (ab_bc mt_K_cable) 134 = .ok (.invokevirtual 208, 3) := by decide +kernel
theorem d_K_cable_137 : decode (ab_bc mt_K_cable) 137 = .ok (.ireturn, 1) := by decide +kernel
theorem d_K_cable_138 : decode (ab_bc mt_K_cable) 138 = .ok (.aload_n 0, 1) := by decide +kernel
theorem d_K_cable_139 : decode (ab_bc mt_K_cable) 139 = .ok (.iload_n 1, 1) := by decide +kernel
theorem d_K_cable_140 : decode (ab_bc mt_K_cable) 140 = .ok (.invokevirtual 211, 3) := by decide +kernel
theorem d_K_cable_143 : decode (ab_bc mt_K_cable) 143 = .ok (.ireturn, 1) := by decide +kernel
theorem d_K_cable_144 : decode (ab_bc mt_K_cable) 144 = .ok (.aload_n 0, 1) := by decide +kernel
theorem d_K_cable_145 : decode (ab_bc mt_K_cable) 145 = .ok (.iload_n 1, 1) := by decide +kernel
theorem d_K_cable_146 : decode (ab_bc mt_K_cable) 146 = .ok (.invokevirtual 214, 3) := by decide +kernel
theorem d_K_cable_149 : decode (ab_bc mt_K_cable) 149 = .ok (.ireturn, 1) := by decide +kernel
theorem d_K_cable_150 : decode (ab_bc mt_K_cable) 150 = .ok (.aload_n 0, 1) := by decide +kernel
theorem d_K_cable_151 : decode (ab_bc mt_K_cable) 151 = .ok (.iload_n 1, 1) := by decide +kernel
theorem d_K_cable_152 : decode (ab_bc mt_K_cable) 152 = .ok (.invokevirtual 217, 3) := by decide +kernel
theorem d_K_cable_155 : decode (ab_bc mt_K_cable) 155 = .ok (.ireturn, 1) := by decide +kernel
theorem d_K_cable_156 : decode (ab_bc mt_K_cable) 156 = .ok (.aload_n 0, 1) := by decide +kernel
theorem d_K_cable_157 : decode (ab_bc mt_K_cable) 157 = .ok (.iload_n 1, 1) := by decide +kernel
theorem d_K_cable_158 : decode (ab_bc mt_K_cable) 158 = .ok (.invokevirtual 220, 3) := by decide +kernel
theorem d_K_cable_161 : decode (ab_bc mt_K_cable) 161 = .ok (.ireturn, 1) := by decide +kernel
theorem d_K_cable_162 : decode (ab_bc mt_K_cable) 162 = .ok (.aload_n 0, 1) := by decide +kernel
theorem d_K_cable_163 : decode (ab_bc mt_K_cable) 163 = .ok (.iload_n 1, 1) := by decide +kernel
theorem d_K_cable_164 : decode (ab_bc mt_K_cable) 164 = .ok (.invokevirtual 223, 3) := by decide +kernel
theorem d_K_cable_167 : decode (ab_bc mt_K_cable) 167 = .ok (.ireturn, 1) := by decide +kernel
theorem d_K_cable_168 : decode (ab_bc mt_K_cable) 168 = .ok (.new 183, 3) := by decide +kernel
theorem d_K_cable_171 : decode (ab_bc mt_K_cable) 171 = .ok (.dup, 1) := by decide +kernel
theorem d_K_cable_172 : decode (ab_bc mt_K_cable) 172 = .ok (.invokespecial 185, 3) := by decide +kernel
theorem d_K_cable_175 : decode (ab_bc mt_K_cable) 175 = .ok (.athrow, 1) := by decide +kernel
-- CableKeeper.cable(II)I over kx
theorem q_K_cable_0 {w : ab_Wd} {d n nc ns : Nat} {I : Nat → Nat → Int32} {L : Nat → Nat → Int64} {res : ab_Re} (v1 : Int32) (v2 : Int32) (h8 : 8 ≤ (d + 1)) (hc : nc ≤ res.2.2.2.2.2.1) (hs : ns ≤ res.2.2.2.2.2.2)
    (h : ((ab_C w d mt_K_needCable [.ref kx, .int v1] (I, L, ab_RR, n, nc, ns) (.inl none, (I, L, ab_RR, n, nc, ns)) ∧ ((v2 = 0 → ((vp_in v1 24) ∧ res = (.inl (some (.int (I kx_now_cables_first v1.toNatClampNeg))), (I, L, ab_RR, n, nc, ns)))) ∧ (v2 = 1 → ((vp_in v1 24) ∧ res = (.inl (some (.int (I kx_now_cables_second v1.toNatClampNeg))), (I, L, ab_RR, n, nc, ns)))) ∧ (v2 = 2 → ((vp_in v1 24) ∧ res = (.inl (some (.int (I kx_now_cables_price v1.toNatClampNeg))), (I, L, ab_RR, n, nc, ns)))) ∧ (v2 = 3 → ((vp_in v1 24) ∧ res = (.inl (some (.int (I kx_now_cables_firm v1.toNatClampNeg))), (I, L, ab_RR, n, nc, ns)))) ∧ (v2 = 4 → (∃ (r6 : Int32), ab_C w d mt_Cables_isSound [.ref kx_now_cables, .int v1] (I, L, ab_RR, n, nc, ns) (.inl (some (.int r6)), (I, L, ab_RR, n, nc, ns)) ∧ ((r6 = 0 → (ab_E w (d + 1) mt_K_cable 117 [.ref kx, .int v1, .int v2, .ref kx_now_cables] [.int 0] (I, L, ab_RR, n, nc, ns) res)) ∧ (¬ r6 = 0 → (ab_E w (d + 1) mt_K_cable 117 [.ref kx, .int v1, .int v2, .ref kx_now_cables] [.int 1] (I, L, ab_RR, n, nc, ns) res))))) ∧ (v2 = 5 → (∃ (r8 : Int32), ab_C w d mt_K_isInside [.ref kx, .int v1] (I, L, ab_RR, n, nc, ns) (.inl (some (.int r8)), (I, L, ab_RR, n, nc, ns)) ∧ ((r8 = 0 → (ab_E w (d + 1) mt_K_cable 131 [.ref kx, .int v1, .int v2, .ref kx_now_cables] [.int 0] (I, L, ab_RR, n, nc, ns) res)) ∧ (¬ r8 = 0 → (ab_E w (d + 1) mt_K_cable 131 [.ref kx, .int v1, .int v2, .ref kx_now_cables] [.int 1] (I, L, ab_RR, n, nc, ns) res))))) ∧ (v2 = 6 → (∃ (r10 : Int32), ab_C w d mt_K_ringSize [.ref kx, .int v1] (I, L, ab_RR, n, nc, ns) (.inl (some (.int r10)), (I, L, ab_RR, n, nc, ns)) ∧ res = (.inl (some (.int r10)), (I, L, ab_RR, n, nc, ns)))) ∧ (v2 = 7 → (∃ (r11 : Int32), ab_C w d mt_K_dearestOf [.ref kx, .int v1] (I, L, ab_RR, n, nc, ns) (.inl (some (.int r11)), (I, L, ab_RR, n, nc, ns)) ∧ res = (.inl (some (.int r11)), (I, L, ab_RR, n, nc, ns)))) ∧ (v2 = 8 → (∃ (r12 : Int32), ab_C w d mt_K_cutOf [.ref kx, .int v1] (I, L, ab_RR, n, nc, ns) (.inl (some (.int r12)), (I, L, ab_RR, n, nc, ns)) ∧ res = (.inl (some (.int r12)), (I, L, ab_RR, n, nc, ns)))) ∧ (v2 = 9 → (∃ (r13 : Int32), ab_C w d mt_K_rivalOf [.ref kx, .int v1] (I, L, ab_RR, n, nc, ns) (.inl (some (.int r13)), (I, L, ab_RR, n, nc, ns)) ∧ res = (.inl (some (.int r13)), (I, L, ab_RR, n, nc, ns)))) ∧ (v2 = 10 → (∃ (r14 : Int32), ab_C w d mt_K_barOf [.ref kx, .int v1] (I, L, ab_RR, n, nc, ns) (.inl (some (.int r14)), (I, L, ab_RR, n, nc, ns)) ∧ res = (.inl (some (.int r14)), (I, L, ab_RR, n, nc, ns)))) ∧ (v2 = 11 → (∃ (r15 : Int32), ab_C w d mt_K_lossOf [.ref kx, .int v1] (I, L, ab_RR, n, nc, ns) (.inl (some (.int r15)), (I, L, ab_RR, n, nc, ns)) ∧ res = (.inl (some (.int r15)), (I, L, ab_RR, n, nc, ns)))) ∧ ((v2.toInt < 0 ∨ 11 < v2.toInt) → (res = (.inr "java/util/NoSuchElementException", (I, L, ab_RR, n, nc + 1, ns + 6)))))) ∨ (∃ E : String, ab_C w d mt_K_needCable [.ref kx, .int v1] (I, L, ab_RR, n, nc, ns) (.inr E, (I, L, ab_RR, n, nc + 1, ns + 6)) ∧ res = (.inr E, (I, L, ab_RR, n, nc + 1, ns + 6))))) : ab_E w (d + 1) mt_K_cable 0 [.ref kx, .int v1, .int v2, .null] [] (I, L, ab_RR, n, nc, ns) res := by
  refine ab_aload_n (i := 0) d_K_cable_0 rfl rfl ?_
  refine ab_iload_n (i := 1) d_K_cable_1 rfl rfl ?_
  rcases h with ⟨hC, h⟩ | ⟨E9, hC, h⟩
  · refine ab_callV (me2 := mt_K_needCable) (b := kx) (as := [.int v1]) (st := []) (rv := none) (M2 := (I, L, ab_RR, n, nc, ns)) d_K_cable_2 ce_K_needCable v_1071 v_1073 v_43 (by decide) rfl (by decide) hC (Nat.le_refl _) (Nat.le_refl _) hc hs (fun j h9 => by cases h9) (fun _ _ => rfl) ?_
    show ab_E w (d + 1) mt_K_cable 5 [.ref kx, .int v1, .int v2, .null] [] (I, L, ab_RR, n, nc, ns) res
    refine ab_aload_n (i := 0) d_K_cable_5 rfl rfl ?_
    refine ab_getR (ci := 10) (k := 3) (j := kx_now) d_K_cable_6 v_475 rfl (by decide) (by decide) rfl r_kx_3 ?_
    refine ab_getR (ci := 6) (k := 0) (j := kx_now_cables) d_K_cable_9 v_294 rfl (by decide) (by decide) rfl r_kx_now_0 ?_
    refine ab_astore_n (i := 3) d_K_cable_12 rfl (by decide) (Or.inr rfl) ?_
    refine ab_iload_n (i := 2) d_K_cable_13 rfl rfl ?_
    by_cases c16 : v2 = 0
    · have h := h.1 c16
      refine ab_tabIn (tgt := 76) d_K_cable_14 (by rw [c16]; decide) (by rw [c16]; decide) (by rw [ab_tab_in (j := 0) c16 (by decide)]; rfl) (by decide) ?_
      refine ab_aload_n (i := 3) d_K_cable_76 rfl rfl ?_
      refine ab_getR (ci := 1) (k := 3) (j := kx_now_cables_first) d_K_cable_77 v_209 rfl (by decide) (by decide) rfl r_kx_now_cables_3 ?_
      refine ab_iload_n (i := 1) d_K_cable_80 rfl rfl ?_
      have g2 := h.1; have h := h.2
      refine ab_iald d_K_cable_81 rfl rfl g2 ?_
      exact ab_iret (ty := .int) d_K_cable_82 rfl rfl h
    by_cases c17 : v2 = 1
    · have h := h.2.1 c17
      refine ab_tabIn (tgt := 83) d_K_cable_14 (by rw [c17]; decide) (by rw [c17]; decide) (by rw [ab_tab_in (j := 1) c17 (by decide)]; rfl) (by decide) ?_
      refine ab_aload_n (i := 3) d_K_cable_83 rfl rfl ?_
      refine ab_getR (ci := 1) (k := 4) (j := kx_now_cables_second) d_K_cable_84 v_216 rfl (by decide) (by decide) rfl r_kx_now_cables_4 ?_
      refine ab_iload_n (i := 1) d_K_cable_87 rfl rfl ?_
      have g3 := h.1; have h := h.2
      refine ab_iald d_K_cable_88 rfl rfl g3 ?_
      exact ab_iret (ty := .int) d_K_cable_89 rfl rfl h
    by_cases c18 : v2 = 2
    · have h := h.2.2.1 c18
      refine ab_tabIn (tgt := 90) d_K_cable_14 (by rw [c18]; decide) (by rw [c18]; decide) (by rw [ab_tab_in (j := 2) c18 (by decide)]; rfl) (by decide) ?_
      refine ab_aload_n (i := 3) d_K_cable_90 rfl rfl ?_
      refine ab_getR (ci := 1) (k := 5) (j := kx_now_cables_price) d_K_cable_91 v_224 rfl (by decide) (by decide) rfl r_kx_now_cables_5 ?_
      refine ab_iload_n (i := 1) d_K_cable_94 rfl rfl ?_
      have g4 := h.1; have h := h.2
      refine ab_iald d_K_cable_95 rfl rfl g4 ?_
      exact ab_iret (ty := .int) d_K_cable_96 rfl rfl h
    by_cases c19 : v2 = 3
    · have h := h.2.2.2.1 c19
      refine ab_tabIn (tgt := 97) d_K_cable_14 (by rw [c19]; decide) (by rw [c19]; decide) (by rw [ab_tab_in (j := 3) c19 (by decide)]; rfl) (by decide) ?_
      refine ab_aload_n (i := 3) d_K_cable_97 rfl rfl ?_
      refine ab_getR (ci := 1) (k := 6) (j := kx_now_cables_firm) d_K_cable_98 v_228 rfl (by decide) (by decide) rfl r_kx_now_cables_6 ?_
      refine ab_iload_n (i := 1) d_K_cable_101 rfl rfl ?_
      have g5 := h.1; have h := h.2
      refine ab_iald d_K_cable_102 rfl rfl g5 ?_
      exact ab_iret (ty := .int) d_K_cable_103 rfl rfl h
    by_cases c20 : v2 = 4
    · have h := h.2.2.2.2.1 c20
      refine ab_tabIn (tgt := 104) d_K_cable_14 (by rw [c20]; decide) (by rw [c20]; decide) (by rw [ab_tab_in (j := 4) c20 (by decide)]; rfl) (by decide) ?_
      refine ab_aload_n (i := 3) d_K_cable_104 rfl rfl ?_
      refine ab_iload_n (i := 1) d_K_cable_105 rfl rfl ?_
      obtain ⟨r6, hC, h⟩ := h
      refine ab_callV (me2 := mt_Cables_isSound) (b := kx_now_cables) (as := [.int v1]) (st := []) (rv := (some (.int r6))) (M2 := (I, L, ab_RR, n, nc, ns)) d_K_cable_106 ce_Cables_isSound v_624 v_540 v_541 (by decide) rfl (by decide) hC (Nat.le_refl _) (Nat.le_refl _) hc hs (fun j h9 => by cases h9) (fun _ _ => rfl) ?_
      show ab_E w (d + 1) mt_K_cable 109 [.ref kx, .int v1, .int v2, .ref kx_now_cables] [.int r6] (I, L, ab_RR, n, nc, ns) res
      refine ab_if_eq (tgt := 116) d_K_cable_109 (by decide) (fun c7 => ?_) (fun c7 => ?_)
      · have h := h.1 c7
        refine ab_iconst (v := 0) d_K_cable_116 rfl ?_
        exact h
      · have h := h.2 c7
        refine ab_iconst (v := 1) d_K_cable_112 rfl ?_
        refine ab_goto (tgt := 117) d_K_cable_113 (by decide) ?_
        exact h
    by_cases c21 : v2 = 5
    · have h := h.2.2.2.2.2.1 c21
      refine ab_tabIn (tgt := 118) d_K_cable_14 (by rw [c21]; decide) (by rw [c21]; decide) (by rw [ab_tab_in (j := 5) c21 (by decide)]; rfl) (by decide) ?_
      refine ab_aload_n (i := 0) d_K_cable_118 rfl rfl ?_
      refine ab_iload_n (i := 1) d_K_cable_119 rfl rfl ?_
      obtain ⟨r8, hC, h⟩ := h
      refine ab_callV (me2 := mt_K_isInside) (b := kx) (as := [.int v1]) (st := []) (rv := (some (.int r8))) (M2 := (I, L, ab_RR, n, nc, ns)) d_K_cable_120 ce_K_isInside v_944 v_946 v_30 (by decide) rfl (by decide) hC (Nat.le_refl _) (Nat.le_refl _) hc hs (fun j h9 => by cases h9) (fun _ _ => rfl) ?_
      show ab_E w (d + 1) mt_K_cable 123 [.ref kx, .int v1, .int v2, .ref kx_now_cables] [.int r8] (I, L, ab_RR, n, nc, ns) res
      refine ab_if_eq (tgt := 130) d_K_cable_123 (by decide) (fun c9 => ?_) (fun c9 => ?_)
      · have h := h.1 c9
        refine ab_iconst (v := 0) d_K_cable_130 rfl ?_
        exact h
      · have h := h.2 c9
        refine ab_iconst (v := 1) d_K_cable_126 rfl ?_
        refine ab_goto (tgt := 131) d_K_cable_127 (by decide) ?_
        exact h
    by_cases c22 : v2 = 6
    · have h := h.2.2.2.2.2.2.1 c22
      refine ab_tabIn (tgt := 132) d_K_cable_14 (by rw [c22]; decide) (by rw [c22]; decide) (by rw [ab_tab_in (j := 6) c22 (by decide)]; rfl) (by decide) ?_
      refine ab_aload_n (i := 0) d_K_cable_132 rfl rfl ?_
      refine ab_iload_n (i := 1) d_K_cable_133 rfl rfl ?_
      obtain ⟨r10, hC, h⟩ := h
      refine ab_callV (me2 := mt_K_ringSize) (b := kx) (as := [.int v1]) (st := []) (rv := (some (.int r10))) (M2 := (I, L, ab_RR, n, nc, ns)) d_K_cable_134 ce_K_ringSize v_1075 v_1077 v_44 (by decide) rfl (by decide) hC (Nat.le_refl _) (Nat.le_refl _) hc hs (fun j h9 => by cases h9) (fun _ _ => rfl) ?_
      show ab_E w (d + 1) mt_K_cable 137 [.ref kx, .int v1, .int v2, .ref kx_now_cables] [.int r10] (I, L, ab_RR, n, nc, ns) res
      exact ab_iret (ty := .int) d_K_cable_137 rfl rfl h
    by_cases c23 : v2 = 7
    · have h := h.2.2.2.2.2.2.2.1 c23
      refine ab_tabIn (tgt := 138) d_K_cable_14 (by rw [c23]; decide) (by rw [c23]; decide) (by rw [ab_tab_in (j := 7) c23 (by decide)]; rfl) (by decide) ?_
      refine ab_aload_n (i := 0) d_K_cable_138 rfl rfl ?_
      refine ab_iload_n (i := 1) d_K_cable_139 rfl rfl ?_
      obtain ⟨r11, hC, h⟩ := h
      refine ab_callV (me2 := mt_K_dearestOf) (b := kx) (as := [.int v1]) (st := []) (rv := (some (.int r11))) (M2 := (I, L, ab_RR, n, nc, ns)) d_K_cable_140 ce_K_dearestOf v_936 v_938 v_28 (by decide) rfl (by decide) hC (Nat.le_refl _) (Nat.le_refl _) hc hs (fun j h9 => by cases h9) (fun _ _ => rfl) ?_
      show ab_E w (d + 1) mt_K_cable 143 [.ref kx, .int v1, .int v2, .ref kx_now_cables] [.int r11] (I, L, ab_RR, n, nc, ns) res
      exact ab_iret (ty := .int) d_K_cable_143 rfl rfl h
    by_cases c24 : v2 = 8
    · have h := h.2.2.2.2.2.2.2.2.1 c24
      refine ab_tabIn (tgt := 144) d_K_cable_14 (by rw [c24]; decide) (by rw [c24]; decide) (by rw [ab_tab_in (j := 8) c24 (by decide)]; rfl) (by decide) ?_
      refine ab_aload_n (i := 0) d_K_cable_144 rfl rfl ?_
      refine ab_iload_n (i := 1) d_K_cable_145 rfl rfl ?_
      obtain ⟨r12, hC, h⟩ := h
      refine ab_callV (me2 := mt_K_cutOf) (b := kx) (as := [.int v1]) (st := []) (rv := (some (.int r12))) (M2 := (I, L, ab_RR, n, nc, ns)) d_K_cable_146 ce_K_cutOf v_996 v_998 v_37 (by decide) rfl (by decide) hC (Nat.le_refl _) (Nat.le_refl _) hc hs (fun j h9 => by cases h9) (fun _ _ => rfl) ?_
      show ab_E w (d + 1) mt_K_cable 149 [.ref kx, .int v1, .int v2, .ref kx_now_cables] [.int r12] (I, L, ab_RR, n, nc, ns) res
      exact ab_iret (ty := .int) d_K_cable_149 rfl rfl h
    by_cases c25 : v2 = 9
    · have h := h.2.2.2.2.2.2.2.2.2.1 c25
      refine ab_tabIn (tgt := 150) d_K_cable_14 (by rw [c25]; decide) (by rw [c25]; decide) (by rw [ab_tab_in (j := 9) c25 (by decide)]; rfl) (by decide) ?_
      refine ab_aload_n (i := 0) d_K_cable_150 rfl rfl ?_
      refine ab_iload_n (i := 1) d_K_cable_151 rfl rfl ?_
      obtain ⟨r13, hC, h⟩ := h
      refine ab_callV (me2 := mt_K_rivalOf) (b := kx) (as := [.int v1]) (st := []) (rv := (some (.int r13))) (M2 := (I, L, ab_RR, n, nc, ns)) d_K_cable_152 ce_K_rivalOf v_1083 v_1085 v_45 (by decide) rfl (by decide) hC (Nat.le_refl _) (Nat.le_refl _) hc hs (fun j h9 => by cases h9) (fun _ _ => rfl) ?_
      show ab_E w (d + 1) mt_K_cable 155 [.ref kx, .int v1, .int v2, .ref kx_now_cables] [.int r13] (I, L, ab_RR, n, nc, ns) res
      exact ab_iret (ty := .int) d_K_cable_155 rfl rfl h
    by_cases c26 : v2 = 10
    · have h := h.2.2.2.2.2.2.2.2.2.2.1 c26
      refine ab_tabIn (tgt := 156) d_K_cable_14 (by rw [c26]; decide) (by rw [c26]; decide) (by rw [ab_tab_in (j := 10) c26 (by decide)]; rfl) (by decide) ?_
      refine ab_aload_n (i := 0) d_K_cable_156 rfl rfl ?_
      refine ab_iload_n (i := 1) d_K_cable_157 rfl rfl ?_
      obtain ⟨r14, hC, h⟩ := h
      refine ab_callV (me2 := mt_K_barOf) (b := kx) (as := [.int v1]) (st := []) (rv := (some (.int r14))) (M2 := (I, L, ab_RR, n, nc, ns)) d_K_cable_158 ce_K_barOf v_1087 v_1089 v_46 (by decide) rfl (by decide) hC (Nat.le_refl _) (Nat.le_refl _) hc hs (fun j h9 => by cases h9) (fun _ _ => rfl) ?_
      show ab_E w (d + 1) mt_K_cable 161 [.ref kx, .int v1, .int v2, .ref kx_now_cables] [.int r14] (I, L, ab_RR, n, nc, ns) res
      exact ab_iret (ty := .int) d_K_cable_161 rfl rfl h
    by_cases c27 : v2 = 11
    · have h := h.2.2.2.2.2.2.2.2.2.2.2.1 c27
      refine ab_tabIn (tgt := 162) d_K_cable_14 (by rw [c27]; decide) (by rw [c27]; decide) (by rw [ab_tab_in (j := 11) c27 (by decide)]; rfl) (by decide) ?_
      refine ab_aload_n (i := 0) d_K_cable_162 rfl rfl ?_
      refine ab_iload_n (i := 1) d_K_cable_163 rfl rfl ?_
      obtain ⟨r15, hC, h⟩ := h
      refine ab_callV (me2 := mt_K_lossOf) (b := kx) (as := [.int v1]) (st := []) (rv := (some (.int r15))) (M2 := (I, L, ab_RR, n, nc, ns)) d_K_cable_164 ce_K_lossOf v_1095 v_1097 v_48 (by decide) rfl (by decide) hC (Nat.le_refl _) (Nat.le_refl _) hc hs (fun j h9 => by cases h9) (fun _ _ => rfl) ?_
      show ab_E w (d + 1) mt_K_cable 167 [.ref kx, .int v1, .int v2, .ref kx_now_cables] [.int r15] (I, L, ab_RR, n, nc, ns) res
      exact ab_iret (ty := .int) d_K_cable_167 rfl rfl h
    have hr : v2.toInt < 0 ∨ 11 < v2.toInt := by
      rcases Int.lt_or_le v2.toInt 0 with h9 | h9
      · exact Or.inl h9
      · refine Or.inr (Int.not_le.mp fun h8 => ?_)
        exact ab_tab_out (lo := 0) (hi := 11) (k := 12) h9 h8 (by decide) (by
          intro j hj
          match j, hj with
          | 0, _ => exact c16
          | 1, _ => exact c17
          | 2, _ => exact c18
          | 3, _ => exact c19
          | 4, _ => exact c20
          | 5, _ => exact c21
          | 6, _ => exact c22
          | 7, _ => exact c23
          | 8, _ => exact c24
          | 9, _ => exact c25
          | 10, _ => exact c26
          | 11, _ => exact c27)
    have h := h.2.2.2.2.2.2.2.2.2.2.2.2 hr
    refine ab_tabOut (tgt := 168) d_K_cable_14 hr (by decide) ?_
    exact ab_throw (E := "java/util/NoSuchElementException") d_K_cable_168 d_K_cable_171 d_K_cable_172 d_K_cable_175 (by decide +kernel) v_1049 v_163 x3_K_185 x4_K_185 h8 (by decide) h
  · exact ab_callVX (me2 := mt_K_needCable) (b := kx) (as := [.int v1]) (st := []) (M2 := (I, L, ab_RR, n, nc + 1, ns + 6)) d_K_cable_2 ce_K_needCable v_1071 v_1073 v_43 (by decide) rfl (by decide) hC (Nat.le_succ _) (Nat.le_add_right _ _) (fun _ _ => rfl) h
theorem q_K_cable_117 {w : ab_Wd} {d n nc ns : Nat} {I : Nat → Nat → Int32} {L : Nat → Nat → Int64} {res : ab_Re} (v1 : Int32) (v2 : Int32) (s0 : Int32) (h8 : 8 ≤ (d + 1)) (hc : nc ≤ res.2.2.2.2.2.1) (hs : ns ≤ res.2.2.2.2.2.2)
    (h : res = (.inl (some (.int s0)), (I, L, ab_RR, n, nc, ns))) : ab_E w (d + 1) mt_K_cable 117 [.ref kx, .int v1, .int v2, .ref kx_now_cables] [.int s0] (I, L, ab_RR, n, nc, ns) res := by
  exact ab_iret (ty := .int) d_K_cable_117 rfl rfl h
theorem q_K_cable_131 {w : ab_Wd} {d n nc ns : Nat} {I : Nat → Nat → Int32} {L : Nat → Nat → Int64} {res : ab_Re} (v1 : Int32) (v2 : Int32) (s0 : Int32) (h8 : 8 ≤ (d + 1)) (hc : nc ≤ res.2.2.2.2.2.1) (hs : ns ≤ res.2.2.2.2.2.2)
    (h : res = (.inl (some (.int s0)), (I, L, ab_RR, n, nc, ns))) : ab_E w (d + 1) mt_K_cable 131 [.ref kx, .int v1, .int v2, .ref kx_now_cables] [.int s0] (I, L, ab_RR, n, nc, ns) res := by
  exact ab_iret (ty := .int) d_K_cable_131 rfl rfl h
theorem d_K_ring_0 : decode (ab_bc mt_K_ring) 0 = .ok (.aload_n 0, 1) := by decide +kernel
theorem d_K_ring_1 : decode (ab_bc mt_K_ring) 1 = .ok (.iload_n 1, 1) := by decide +kernel
theorem d_K_ring_2 : decode (ab_bc mt_K_ring) 2 = .ok (.invokevirtual 186, 3) := by decide +kernel
theorem d_K_ring_5 : decode (ab_bc mt_K_ring) 5 = .ok (.iload_n 2, 1) := by decide +kernel
theorem d_K_ring_6 : decode (ab_bc mt_K_ring) 6 = .ok (.ifCond .lt 12, 3) := by decide +kernel
theorem d_K_ring_9 : decode (ab_bc mt_K_ring) 9 = .ok (.iload_n 2, 1) := by decide +kernel
theorem d_K_ring_10 : decode (ab_bc mt_K_ring) 10 = .ok (.aload_n 0, 1) := by decide +kernel
theorem d_K_ring_11 : decode (ab_bc mt_K_ring) 11 = .ok (.iload_n 1, 1) := by decide +kernel
theorem d_K_ring_12 : decode (ab_bc mt_K_ring) 12 = .ok (.invokevirtual 208, 3) := by decide +kernel
theorem d_K_ring_15 : decode (ab_bc mt_K_ring) 15 = .ok (.if_icmp .lt 11, 3) := by decide +kernel
theorem d_K_ring_18 : decode (ab_bc mt_K_ring) 18 = .ok (.new 183, 3) := by decide +kernel
theorem d_K_ring_21 : decode (ab_bc mt_K_ring) 21 = .ok (.dup, 1) := by decide +kernel
theorem d_K_ring_22 : decode (ab_bc mt_K_ring) 22 = .ok (.invokespecial 185, 3) := by decide +kernel
theorem d_K_ring_25 : decode (ab_bc mt_K_ring) 25 = .ok (.athrow, 1) := by decide +kernel
theorem d_K_ring_26 : decode (ab_bc mt_K_ring) 26 = .ok (.aload_n 0, 1) := by decide +kernel
theorem d_K_ring_27 : decode (ab_bc mt_K_ring) 27 = .ok (.getfield 23, 3) := by decide +kernel
theorem d_K_ring_30 : decode (ab_bc mt_K_ring) 30 = .ok (.getfield 110, 3) := by decide +kernel
theorem d_K_ring_33 : decode (ab_bc mt_K_ring) 33 = .ok (.getfield 192, 3) := by decide +kernel
theorem d_K_ring_36 : decode (ab_bc mt_K_ring) 36 = .ok (.iload_n 1, 1) := by decide +kernel
theorem d_K_ring_37 : decode (ab_bc mt_K_ring) 37 = .ok (.iaload, 1) := by decide +kernel
theorem d_K_ring_38 : decode (ab_bc mt_K_ring) 38 = .ok (.istore_n 3, 1) := by decide +kernel
theorem d_K_ring_39 : decode (ab_bc mt_K_ring) 39 = .ok (.aload_n 0, 1) := by decide +kernel
theorem d_K_ring_40 : decode (ab_bc mt_K_ring) 40 = .ok (.getfield 23, 3) := by decide +kernel
theorem d_K_ring_43 : decode (ab_bc mt_K_ring) 43 = .ok (.getfield 110, 3) := by decide +kernel
theorem d_K_ring_46 : decode (ab_bc mt_K_ring) 46 = .ok (.getfield 189, 3) := by decide +kernel
theorem d_K_ring_49 : decode (ab_bc mt_K_ring) 49 = .ok (.iload_n 1, 1) := by decide +kernel
theorem d_K_ring_50 : decode (ab_bc mt_K_ring) 50 = .ok (.iaload, 1) := by decide +kernel
theorem d_K_ring_51 : decode (ab_bc mt_K_ring) 51 = .ok (.istore 4, 2) := by decide +kernel
theorem d_K_ring_53 : decode (ab_bc mt_K_ring) 53 = .ok (.iconst 0, 1) := by decide +kernel
theorem d_K_ring_54 : decode (ab_bc mt_K_ring) 54 = .ok (.istore 5, 2) := by decide +kernel
theorem d_K_ring_56 : decode (ab_bc mt_K_ring) 56 = .ok (.iload 5, 2) := by decide +kernel
theorem d_K_ring_58 : decode (ab_bc mt_K_ring) 58 = .ok (.iload_n 2, 1) := by decide +kernel
theorem d_K_ring_59 : decode (ab_bc mt_K_ring) 59 = .ok (.if_icmp .ge 33, 3) := by decide +kernel
theorem d_K_ring_62 : decode (ab_bc mt_K_ring) 62 = .ok (.aload_n 0, 1) := by decide +kernel
theorem d_K_ring_63 : decode (ab_bc mt_K_ring) 63 = .ok (.getfield 23, 3) := by decide +kernel
theorem d_K_ring_66 : decode (ab_bc mt_K_ring) 66 = .ok (.getfield 110, 3) := by decide +kernel
theorem d_K_ring_69 : decode (ab_bc mt_K_ring) 69 = .ok (.aload_n 0, 1) := by decide +kernel
theorem d_K_ring_70 : decode (ab_bc mt_K_ring) 70 = .ok (.getfield 44, 3) := by decide +kernel
theorem d_K_ring_73 : decode (ab_bc mt_K_ring) 73 = .ok (.iload 4, 2) := by decide +kernel
theorem d_K_ring_75 : decode (ab_bc mt_K_ring) 75 = .ok (.iload_n 3, 1) := by decide +kernel
theorem d_K_ring_76 : decode (ab_bc mt_K_ring) 76 = .ok (.invokevirtual 226, 3) := by decide +kernel
theorem d_K_ring_79 : decode (ab_bc mt_K_ring) 79 = .ok (.iload 4, 2) := by decide +kernel
theorem d_K_ring_81 : decode (ab_bc mt_K_ring) 81 = .ok (.invokevirtual 230, 3) := by decide +kernel
theorem d_K_ring_84 : decode (ab_bc mt_K_ring) 84 = .ok (.istore 4, 2) := by decide +kernel
theorem d_K_ring_86 : decode (ab_bc mt_K_ring) 86 = .ok (.iinc 5 1, 3) := by decide +kernel
theorem d_K_ring_89 : decode (ab_bc mt_K_ring) 89 = .ok (.goto (-33), 3) := by decide +kernel
theorem d_K_ring_92 : decode (ab_bc mt_K_ring) 92 = .ok (.aload_n 0, 1) := by decide +kernel
theorem d_K_ring_93 : decode (ab_bc mt_K_ring) 93 = .ok (.getfield 44, 3) := by decide +kernel
theorem d_K_ring_96 : decode (ab_bc mt_K_ring) 96 = .ok (.iload 4, 2) := by decide +kernel
theorem d_K_ring_98 : decode (ab_bc mt_K_ring) 98 = .ok (.iload_n 3, 1) := by decide +kernel
theorem d_K_ring_99 : decode (ab_bc mt_K_ring) 99 = .ok (.invokevirtual 226, 3) := by decide +kernel
theorem d_K_ring_102 : decode (ab_bc mt_K_ring) 102 = .ok (.ireturn, 1) := by decide +kernel
-- CableKeeper.ring(II)I over kx
theorem q_K_ring_0 {w : ab_Wd} {d n nc ns : Nat} {I : Nat → Nat → Int32} {L : Nat → Nat → Int64} {res : ab_Re} (v1 : Int32) (v2 : Int32) (h8 : 8 ≤ (d + 1)) (hc : nc ≤ res.2.2.2.2.2.1) (hs : ns ≤ res.2.2.2.2.2.2)
    (h : ((ab_C w d mt_K_needCable [.ref kx, .int v1] (I, L, ab_RR, n, nc, ns) (.inl none, (I, L, ab_RR, n, nc, ns)) ∧ ((v2 < 0 → (ab_E w (d + 1) mt_K_ring 18 [.ref kx, .int v1, .int v2, .null, .null, .null] [] (I, L, ab_RR, n, nc, ns) res)) ∧ (¬ v2 < 0 → (∃ (r3 : Int32), ab_C w d mt_K_ringSize [.ref kx, .int v1] (I, L, ab_RR, n, nc, ns) (.inl (some (.int r3)), (I, L, ab_RR, n, nc, ns)) ∧ ((v2 < r3 → ((vp_in v1 24) ∧ (vp_in v1 24) ∧ ab_E w (d + 1) mt_K_ring 56 [.ref kx, .int v1, .int v2, .int (I kx_now_cables_second v1.toNatClampNeg), .int (I kx_now_cables_first v1.toNatClampNeg), .int 0] [] (I, L, ab_RR, n, nc, ns) res)) ∧ (¬ v2 < r3 → (ab_E w (d + 1) mt_K_ring 18 [.ref kx, .int v1, .int v2, .null, .null, .null] [] (I, L, ab_RR, n, nc, ns) res))))))) ∨ (∃ E : String, ab_C w d mt_K_needCable [.ref kx, .int v1] (I, L, ab_RR, n, nc, ns) (.inr E, (I, L, ab_RR, n, nc + 1, ns + 6)) ∧ res = (.inr E, (I, L, ab_RR, n, nc + 1, ns + 6))))) : ab_E w (d + 1) mt_K_ring 0 [.ref kx, .int v1, .int v2, .null, .null, .null] [] (I, L, ab_RR, n, nc, ns) res := by
  refine ab_aload_n (i := 0) d_K_ring_0 rfl rfl ?_
  refine ab_iload_n (i := 1) d_K_ring_1 rfl rfl ?_
  rcases h with ⟨hC, h⟩ | ⟨E9, hC, h⟩
  · refine ab_callV (me2 := mt_K_needCable) (b := kx) (as := [.int v1]) (st := []) (rv := none) (M2 := (I, L, ab_RR, n, nc, ns)) d_K_ring_2 ce_K_needCable v_1071 v_1073 v_43 (by decide) rfl (by decide) hC (Nat.le_refl _) (Nat.le_refl _) hc hs (fun j h9 => by cases h9) (fun _ _ => rfl) ?_
    show ab_E w (d + 1) mt_K_ring 5 [.ref kx, .int v1, .int v2, .null, .null, .null] [] (I, L, ab_RR, n, nc, ns) res
    refine ab_iload_n (i := 2) d_K_ring_5 rfl rfl ?_
    refine ab_if_lt (tgt := 18) d_K_ring_6 (by decide) (fun c2 => ?_) (fun c2 => ?_)
    · have h := h.1 c2
      exact h
    · have h := h.2 c2
      refine ab_iload_n (i := 2) d_K_ring_9 rfl rfl ?_
      refine ab_aload_n (i := 0) d_K_ring_10 rfl rfl ?_
      refine ab_iload_n (i := 1) d_K_ring_11 rfl rfl ?_
      obtain ⟨r3, hC, h⟩ := h
      refine ab_callV (me2 := mt_K_ringSize) (b := kx) (as := [.int v1]) (st := [.int v2]) (rv := (some (.int r3))) (M2 := (I, L, ab_RR, n, nc, ns)) d_K_ring_12 ce_K_ringSize v_1075 v_1077 v_44 (by decide) rfl (by decide) hC (Nat.le_refl _) (Nat.le_refl _) hc hs (fun j h9 => by cases h9) (fun _ _ => rfl) ?_
      show ab_E w (d + 1) mt_K_ring 15 [.ref kx, .int v1, .int v2, .null, .null, .null] [.int r3, .int v2] (I, L, ab_RR, n, nc, ns) res
      refine ab_icmp_lt (tgt := 26) d_K_ring_15 (by decide) (fun c4 => ?_) (fun c4 => ?_)
      · have h := h.1 c4
        refine ab_aload_n (i := 0) d_K_ring_26 rfl rfl ?_
        refine ab_getR (ci := 10) (k := 3) (j := kx_now) d_K_ring_27 v_475 rfl (by decide) (by decide) rfl r_kx_3 ?_
        refine ab_getR (ci := 6) (k := 0) (j := kx_now_cables) d_K_ring_30 v_294 rfl (by decide) (by decide) rfl r_kx_now_0 ?_
        refine ab_getR (ci := 1) (k := 4) (j := kx_now_cables_second) d_K_ring_33 v_216 rfl (by decide) (by decide) rfl r_kx_now_cables_4 ?_
        refine ab_iload_n (i := 1) d_K_ring_36 rfl rfl ?_
        have g5 := h.1; have h := h.2
        refine ab_iald d_K_ring_37 rfl rfl g5 ?_
        refine ab_istore_n (i := 3) d_K_ring_38 rfl (by decide) (Or.inr rfl) ?_
        refine ab_aload_n (i := 0) d_K_ring_39 rfl rfl ?_
        refine ab_getR (ci := 10) (k := 3) (j := kx_now) d_K_ring_40 v_475 rfl (by decide) (by decide) rfl r_kx_3 ?_
        refine ab_getR (ci := 6) (k := 0) (j := kx_now_cables) d_K_ring_43 v_294 rfl (by decide) (by decide) rfl r_kx_now_0 ?_
        refine ab_getR (ci := 1) (k := 3) (j := kx_now_cables_first) d_K_ring_46 v_209 rfl (by decide) (by decide) rfl r_kx_now_cables_3 ?_
        refine ab_iload_n (i := 1) d_K_ring_49 rfl rfl ?_
        have g6 := h.1; have h := h.2
        refine ab_iald d_K_ring_50 rfl rfl g6 ?_
        refine ab_istore (i := 4) d_K_ring_51 (by decide) (Or.inr rfl) ?_
        refine ab_iconst (v := 0) d_K_ring_53 rfl ?_
        refine ab_istore (i := 5) d_K_ring_54 (by decide) (Or.inr rfl) ?_
        exact h
      · have h := h.2 c4
        exact h
  · exact ab_callVX (me2 := mt_K_needCable) (b := kx) (as := [.int v1]) (st := []) (M2 := (I, L, ab_RR, n, nc + 1, ns + 6)) d_K_ring_2 ce_K_needCable v_1071 v_1073 v_43 (by decide) rfl (by decide) hC (Nat.le_succ _) (Nat.le_add_right _ _) (fun _ _ => rfl) h
theorem q_K_ring_18 {w : ab_Wd} {d n nc ns : Nat} {I : Nat → Nat → Int32} {L : Nat → Nat → Int64} {res : ab_Re} (v1 : Int32) (v2 : Int32) (h8 : 8 ≤ (d + 1)) (hc : nc ≤ res.2.2.2.2.2.1) (hs : ns ≤ res.2.2.2.2.2.2)
    (h : res = (.inr "java/util/NoSuchElementException", (I, L, ab_RR, n, nc + 1, ns + 6))) : ab_E w (d + 1) mt_K_ring 18 [.ref kx, .int v1, .int v2, .null, .null, .null] [] (I, L, ab_RR, n, nc, ns) res := by
  exact ab_throw (E := "java/util/NoSuchElementException") d_K_ring_18 d_K_ring_21 d_K_ring_22 d_K_ring_25 (by decide +kernel) v_1049 v_163 x3_K_185 x4_K_185 h8 (by decide) h
theorem q_K_ring_56 {w : ab_Wd} {d n nc ns : Nat} {I : Nat → Nat → Int32} {L : Nat → Nat → Int64} {res : ab_Re} (v1 : Int32) (v2 : Int32) (v3 : Int32) (v4 : Int32) (v5 : Int32) (h8 : 8 ≤ (d + 1)) (hc : nc ≤ res.2.2.2.2.2.1) (hs : ns ≤ res.2.2.2.2.2.2)
    (h : ((v2 ≤ v5 → (∃ (r2 : Int32), ab_C w d mt_Ways_firstCable [.ref kx_ways, .int v4, .int v3] (I, L, ab_RR, n, nc, ns) (.inl (some (.int r2)), (I, L, ab_RR, n, nc, ns)) ∧ res = (.inl (some (.int r2)), (I, L, ab_RR, n, nc, ns)))) ∧ (¬ v2 ≤ v5 → (∃ (r3 : Int32), ab_C w d mt_Ways_firstCable [.ref kx_ways, .int v4, .int v3] (I, L, ab_RR, n, nc, ns) (.inl (some (.int r3)), (I, L, ab_RR, n, nc, ns)) ∧ ∃ (r4 : Int32), ab_C w d mt_Cables_otherEnd [.ref kx_now_cables, .int r3, .int v4] (I, L, ab_RR, n, nc, ns) (.inl (some (.int r4)), (I, L, ab_RR, n, nc, ns)) ∧ ab_E w (d + 1) mt_K_ring 56 [.ref kx, .int v1, .int v2, .int v3, .int r4, .int (v5 + 1)] [] (I, L, ab_RR, n, nc, ns) res)))) : ab_E w (d + 1) mt_K_ring 56 [.ref kx, .int v1, .int v2, .int v3, .int v4, .int v5] [] (I, L, ab_RR, n, nc, ns) res := by
  refine ab_iload (i := 5) d_K_ring_56 rfl ?_
  refine ab_iload_n (i := 2) d_K_ring_58 rfl rfl ?_
  refine ab_icmp_ge (tgt := 92) d_K_ring_59 (by decide) (fun c1 => ?_) (fun c1 => ?_)
  · have h := h.1 c1
    refine ab_aload_n (i := 0) d_K_ring_92 rfl rfl ?_
    refine ab_getR (ci := 10) (k := 7) (j := kx_ways) d_K_ring_93 v_479 rfl (by decide) (by decide) rfl r_kx_7 ?_
    refine ab_iload (i := 4) d_K_ring_96 rfl ?_
    refine ab_iload_n (i := 3) d_K_ring_98 rfl rfl ?_
    obtain ⟨r2, hC, h⟩ := h
    refine ab_callV (me2 := mt_Ways_firstCable) (b := kx_ways) (as := [.int v4, .int v3]) (st := []) (rv := (some (.int r2))) (M2 := (I, L, ab_RR, n, nc, ns)) d_K_ring_99 ce_Ways_firstCable v_1004 v_1005 v_1006 (by decide) rfl (by decide) hC (Nat.le_refl _) (Nat.le_refl _) hc hs (fun j h9 => by cases h9) (fun _ _ => rfl) ?_
    show ab_E w (d + 1) mt_K_ring 102 [.ref kx, .int v1, .int v2, .int v3, .int v4, .int v5] [.int r2] (I, L, ab_RR, n, nc, ns) res
    exact ab_iret (ty := .int) d_K_ring_102 rfl rfl h
  · have h := h.2 c1
    refine ab_aload_n (i := 0) d_K_ring_62 rfl rfl ?_
    refine ab_getR (ci := 10) (k := 3) (j := kx_now) d_K_ring_63 v_475 rfl (by decide) (by decide) rfl r_kx_3 ?_
    refine ab_getR (ci := 6) (k := 0) (j := kx_now_cables) d_K_ring_66 v_294 rfl (by decide) (by decide) rfl r_kx_now_0 ?_
    refine ab_aload_n (i := 0) d_K_ring_69 rfl rfl ?_
    refine ab_getR (ci := 10) (k := 7) (j := kx_ways) d_K_ring_70 v_479 rfl (by decide) (by decide) rfl r_kx_7 ?_
    refine ab_iload (i := 4) d_K_ring_73 rfl ?_
    refine ab_iload_n (i := 3) d_K_ring_75 rfl rfl ?_
    obtain ⟨r3, hC, h⟩ := h
    refine ab_callV (me2 := mt_Ways_firstCable) (b := kx_ways) (as := [.int v4, .int v3]) (st := [.ref kx_now_cables]) (rv := (some (.int r3))) (M2 := (I, L, ab_RR, n, nc, ns)) d_K_ring_76 ce_Ways_firstCable v_1004 v_1005 v_1006 (by decide) rfl (by decide) hC (Nat.le_refl _) (Nat.le_refl _) hc hs (fun j h9 => by cases h9) (fun _ _ => rfl) ?_
    show ab_E w (d + 1) mt_K_ring 79 [.ref kx, .int v1, .int v2, .int v3, .int v4, .int v5] [.int r3, .ref kx_now_cables] (I, L, ab_RR, n, nc, ns) res
    refine ab_iload (i := 4) d_K_ring_79 rfl ?_
    obtain ⟨r4, hC, h⟩ := h
    refine ab_callV (me2 := mt_Cables_otherEnd) (b := kx_now_cables) (as := [.int r3, .int v4]) (st := []) (rv := (some (.int r4))) (M2 := (I, L, ab_RR, n, nc, ns)) d_K_ring_81 ce_Cables_otherEnd v_1106 v_1107 v_1108 (by decide) rfl (by decide) hC (Nat.le_refl _) (Nat.le_refl _) hc hs (fun j h9 => by cases h9) (fun _ _ => rfl) ?_
    show ab_E w (d + 1) mt_K_ring 84 [.ref kx, .int v1, .int v2, .int v3, .int v4, .int v5] [.int r4] (I, L, ab_RR, n, nc, ns) res
    refine ab_istore (i := 4) d_K_ring_84 (by decide) (Or.inr rfl) ?_
    refine ab_iinc (i := 5) (v := (v5 + 1)) d_K_ring_86 rfl rfl (by decide) (Or.inr rfl) ?_
    refine ab_goto (tgt := 56) d_K_ring_89 (by decide) ?_
    exact h
theorem d_K_taken_0 : decode (ab_bc mt_K_taken) 0 = .ok (.iload_n 1, 1) := by decide +kernel
theorem d_K_taken_1 : decode (ab_bc mt_K_taken) 1 = .ok (.ifCond .lt 14, 3) := by decide +kernel
theorem d_K_taken_4 : decode (ab_bc mt_K_taken) 4 = .ok (.iload_n 1, 1) := by decide +kernel
theorem d_K_taken_5 : decode (ab_bc mt_K_taken) 5 = .ok (.aload_n 0, 1) := by decide +kernel
theorem d_K_taken_6 : decode (ab_bc mt_K_taken) 6 = .ok (.getfield 37, 3) := by decide +kernel
theorem d_K_taken_9 : decode (ab_bc mt_K_taken) 9 = .ok (.getfield 233, 3) := by decide +kernel
theorem d_K_taken_12 : decode (ab_bc mt_K_taken) 12 = .ok (.if_icmp .lt 11, 3) := by decide +kernel
theorem d_K_taken_15 : decode (ab_bc mt_K_taken) 15 = .ok (.new 183, 3) := by decide +kernel
theorem d_K_taken_18 : decode (ab_bc mt_K_taken) 18 = .ok (.dup, 1) := by decide +kernel
theorem d_K_taken_19 : decode (ab_bc mt_K_taken) 19 = .ok (.invokespecial 185, 3) := by decide +kernel
theorem d_K_taken_22 : decode (ab_bc mt_K_taken) 22 = .ok (.athrow, 1) := by decide +kernel
theorem d_K_taken_23 : decode (ab_bc mt_K_taken) 23 = .ok (.aload_n 0, 1) := by decide +kernel
theorem d_K_taken_24 : decode (ab_bc mt_K_taken) 24 = .ok (.getfield 37, 3) := by decide +kernel
theorem d_K_taken_27 : decode (ab_bc mt_K_taken) 27 = .ok (.getfield 236, 3) := by decide +kernel
theorem d_K_taken_30 : decode (ab_bc mt_K_taken) 30 = .ok (.iload_n 1, 1) := by decide +kernel
theorem d_K_taken_31 : decode (ab_bc mt_K_taken) 31 = .ok (.iaload, 1) := by decide +kernel
theorem d_K_taken_32 : decode (ab_bc mt_K_taken) 32 = .ok (.ireturn, 1) := by decide +kernel
-- CableKeeper.taken(I)I over kx
theorem q_K_taken_0 {w : ab_Wd} {d n nc ns : Nat} {I : Nat → Nat → Int32} {L : Nat → Nat → Int64} {res : ab_Re} (v1 : Int32) (h8 : 8 ≤ (d + 1)) (hc : nc ≤ res.2.2.2.2.2.1) (hs : ns ≤ res.2.2.2.2.2.2)
    (h : ((v1 < 0 → (ab_E w (d + 1) mt_K_taken 15 [.ref kx, .int v1] [] (I, L, ab_RR, n, nc, ns) res)) ∧ (¬ v1 < 0 → ((v1 < (I kx_forest 1) → ((vp_in v1 9) ∧ res = (.inl (some (.int (I kx_forest_order v1.toNatClampNeg))), (I, L, ab_RR, n, nc, ns)))) ∧ (¬ v1 < (I kx_forest 1) → (ab_E w (d + 1) mt_K_taken 15 [.ref kx, .int v1] [] (I, L, ab_RR, n, nc, ns) res)))))) : ab_E w (d + 1) mt_K_taken 0 [.ref kx, .int v1] [] (I, L, ab_RR, n, nc, ns) res := by
  refine ab_iload_n (i := 1) d_K_taken_0 rfl rfl ?_
  refine ab_if_lt (tgt := 15) d_K_taken_1 (by decide) (fun c1 => ?_) (fun c1 => ?_)
  · have h := h.1 c1
    exact h
  · have h := h.2 c1
    refine ab_iload_n (i := 1) d_K_taken_4 rfl rfl ?_
    refine ab_aload_n (i := 0) d_K_taken_5 rfl rfl ?_
    refine ab_getR (ci := 10) (k := 6) (j := kx_forest) d_K_taken_6 v_478 rfl (by decide) (by decide) rfl r_kx_6 ?_
    refine ab_getI (ci := 2) (k := 1) d_K_taken_9 v_333 rfl (by decide) (by decide) rfl ?_
    refine ab_icmp_lt (tgt := 23) d_K_taken_12 (by decide) (fun c2 => ?_) (fun c2 => ?_)
    · have h := h.1 c2
      refine ab_aload_n (i := 0) d_K_taken_23 rfl rfl ?_
      refine ab_getR (ci := 10) (k := 6) (j := kx_forest) d_K_taken_24 v_478 rfl (by decide) (by decide) rfl r_kx_6 ?_
      refine ab_getR (ci := 2) (k := 0) (j := kx_forest_order) d_K_taken_27 v_330 rfl (by decide) (by decide) rfl r_kx_forest_0 ?_
      refine ab_iload_n (i := 1) d_K_taken_30 rfl rfl ?_
      have g3 := h.1; have h := h.2
      refine ab_iald d_K_taken_31 rfl rfl g3 ?_
      exact ab_iret (ty := .int) d_K_taken_32 rfl rfl h
    · have h := h.2 c2
      exact h
theorem q_K_taken_15 {w : ab_Wd} {d n nc ns : Nat} {I : Nat → Nat → Int32} {L : Nat → Nat → Int64} {res : ab_Re} (v1 : Int32) (h8 : 8 ≤ (d + 1)) (hc : nc ≤ res.2.2.2.2.2.1) (hs : ns ≤ res.2.2.2.2.2.2)
    (h : res = (.inr "java/util/NoSuchElementException", (I, L, ab_RR, n, nc + 1, ns + 6))) : ab_E w (d + 1) mt_K_taken 15 [.ref kx, .int v1] [] (I, L, ab_RR, n, nc, ns) res := by
  exact ab_throw (E := "java/util/NoSuchElementException") d_K_taken_15 d_K_taken_18 d_K_taken_19 d_K_taken_22 (by decide +kernel) v_1049 v_163 x3_K_185 x4_K_185 h8 (by decide) h
theorem d_K_site_0 : decode (ab_bc mt_K_site) 0 = .ok (.aload_n 0, 1) := by decide +kernel
theorem d_K_site_1 : decode (ab_bc mt_K_site) 1 = .ok (.iload_n 1, 1) := by decide +kernel
theorem d_K_site_2 : decode (ab_bc mt_K_site) 2 = .ok (.invokevirtual 239, 3) := by decide +kernel
theorem d_K_site_5 : decode (ab_bc mt_K_site) 5 = .ok (.iload_n 2, 1) := by decide +kernel
theorem d_K_site_6 : decode (ab_bc mt_K_site) 6 = .ok (.tableswitch 67 0 3 #[30, 36, 51, 61], 30) := by decide +kernel
theorem d_K_site_36 : decode (ab_bc mt_K_site) 36 = .ok (.aload_n 0, 1) := by decide +kernel
theorem d_K_site_37 : decode (ab_bc mt_K_site) 37 = .ok (.iload_n 1, 1) := by decide +kernel
theorem d_K_site_38 : decode (ab_bc mt_K_site) 38 = .ok (.invokevirtual 242, 3) := by decide +kernel
theorem d_K_site_41 : decode (ab_bc mt_K_site) 41 = .ok (.ireturn, 1) := by decide +kernel
theorem d_K_site_42 : decode (ab_bc mt_K_site) 42 = .ok (.aload_n 0, 1) := by decide +kernel
theorem d_K_site_43 : decode (ab_bc mt_K_site) 43 = .ok (.iload_n 1, 1) := by decide +kernel
theorem d_K_site_44 : decode (ab_bc mt_K_site) 44 = .ok (.invokevirtual 242, 3) := by decide +kernel
theorem d_K_site_47 : decode (ab_bc mt_K_site) 47 = .ok (.iconst 1, 1) := by decide +kernel
theorem d_K_site_48 : decode (ab_bc mt_K_site) 48 = .ok (.if_icmp .ne 7, 3) := by decide +kernel
theorem d_K_site_51 : decode (ab_bc mt_K_site) 51 = .ok (.iconst 1, 1) := by decide +kernel
theorem d_K_site_52 : decode (ab_bc mt_K_site) 52 = .ok (.goto 4, 3) := by decide +kernel
theorem d_K_site_55 : decode (ab_bc mt_K_site) 55 = .ok (.iconst 0, 1) := by decide +kernel
theorem d_K_site_56 : decode (ab_bc mt_K_site) 56 = .ok (.ireturn, 1) := by decide +kernel
theorem d_K_site_57 : decode (ab_bc mt_K_site) 57 = .ok (.aload_n 0, 1) := by decide +kernel
theorem d_K_site_58 : decode (ab_bc mt_K_site) 58 = .ok (.getfield 37, 3) := by decide +kernel
theorem d_K_site_61 : decode (ab_bc mt_K_site) 61 = .ok (.getfield 245, 3) := by decide +kernel
theorem d_K_site_64 : decode (ab_bc mt_K_site) 64 = .ok (.iload_n 1, 1) := by decide +kernel
theorem d_K_site_65 : decode (ab_bc mt_K_site) 65 = .ok (.iaload, 1) := by decide +kernel
theorem d_K_site_66 : decode (ab_bc mt_K_site) 66 = .ok (.ireturn, 1) := by decide +kernel
theorem d_K_site_67 : decode (ab_bc mt_K_site) 67 = .ok (.aload_n 0, 1) := by decide +kernel
theorem d_K_site_68 : decode (ab_bc mt_K_site) 68 = .ok (.iload_n 1, 1) := by decide +kernel
theorem d_K_site_69 : decode (ab_bc mt_K_site) 69 = .ok (.invokevirtual 248, 3) := by decide +kernel
theorem d_K_site_72 : decode (ab_bc mt_K_site) 72 = .ok (.ireturn, 1) := by decide +kernel
theorem d_K_site_73 : decode (ab_bc mt_K_site) 73 = .ok (.new 183, 3) := by decide +kernel
theorem d_K_site_76 : decode (ab_bc mt_K_site) 76 = .ok (.dup, 1) := by decide +kernel
theorem d_K_site_77 : decode (ab_bc mt_K_site) 77 = .ok (.invokespecial 185, 3) := by decide +kernel
theorem d_K_site_80 : decode (ab_bc mt_K_site) 80 = .ok (.athrow, 1) := by decide +kernel
-- CableKeeper.site(II)I over kx
theorem q_K_site_0 {w : ab_Wd} {d n nc ns : Nat} {I : Nat → Nat → Int32} {L : Nat → Nat → Int64} {res : ab_Re} (v1 : Int32) (v2 : Int32) (h8 : 8 ≤ (d + 1)) (hc : nc ≤ res.2.2.2.2.2.1) (hs : ns ≤ res.2.2.2.2.2.2)
    (h : ((ab_C w d mt_K_needSite [.ref kx, .int v1] (I, L, ab_RR, n, nc, ns) (.inl none, (I, L, ab_RR, n, nc, ns)) ∧ ((v2 = 0 → (∃ (r2 : Int32), ab_C w d mt_K_endsAt [.ref kx, .int v1] (I, L, ab_RR, n, nc, ns) (.inl (some (.int r2)), (I, L, ab_RR, n, nc, ns)) ∧ res = (.inl (some (.int r2)), (I, L, ab_RR, n, nc, ns)))) ∧ (v2 = 1 → (∃ (r3 : Int32), ab_C w d mt_K_endsAt [.ref kx, .int v1] (I, L, ab_RR, n, nc, ns) (.inl (some (.int r3)), (I, L, ab_RR, n, nc, ns)) ∧ ((¬ r3 = 1 → (ab_E w (d + 1) mt_K_site 56 [.ref kx, .int v1, .int v2] [.int 0] (I, L, ab_RR, n, nc, ns) res)) ∧ (r3 = 1 → (ab_E w (d + 1) mt_K_site 56 [.ref kx, .int v1, .int v2] [.int 1] (I, L, ab_RR, n, nc, ns) res))))) ∧ (v2 = 2 → ((vp_in v1 10) ∧ res = (.inl (some (.int (I kx_forest_piece v1.toNatClampNeg))), (I, L, ab_RR, n, nc, ns)))) ∧ (v2 = 3 → (∃ (r6 : Int32) (I7 : Nat → Nat → Int32), ab_C w d mt_K_aloneOf [.ref kx, .int v1] (I, L, ab_RR, n, nc, ns) (.inl (some (.int r6)), (I7, L, ab_RR, n, nc, ns)) ∧ res = (.inl (some (.int r6)), (I7, L, ab_RR, n, nc, ns)))) ∧ ((v2.toInt < 0 ∨ 3 < v2.toInt) → (res = (.inr "java/util/NoSuchElementException", (I, L, ab_RR, n, nc + 1, ns + 6)))))) ∨ (∃ E : String, ab_C w d mt_K_needSite [.ref kx, .int v1] (I, L, ab_RR, n, nc, ns) (.inr E, (I, L, ab_RR, n, nc + 1, ns + 6)) ∧ res = (.inr E, (I, L, ab_RR, n, nc + 1, ns + 6))))) : ab_E w (d + 1) mt_K_site 0 [.ref kx, .int v1, .int v2] [] (I, L, ab_RR, n, nc, ns) res := by
  refine ab_aload_n (i := 0) d_K_site_0 rfl rfl ?_
  refine ab_iload_n (i := 1) d_K_site_1 rfl rfl ?_
  rcases h with ⟨hC, h⟩ | ⟨E9, hC, h⟩
  · refine ab_callV (me2 := mt_K_needSite) (b := kx) (as := [.int v1]) (st := []) (rv := none) (M2 := (I, L, ab_RR, n, nc, ns)) d_K_site_2 ce_K_needSite v_1124 v_1126 v_49 (by decide) rfl (by decide) hC (Nat.le_refl _) (Nat.le_refl _) hc hs (fun j h9 => by cases h9) (fun _ _ => rfl) ?_
    show ab_E w (d + 1) mt_K_site 5 [.ref kx, .int v1, .int v2] [] (I, L, ab_RR, n, nc, ns) res
    refine ab_iload_n (i := 2) d_K_site_5 rfl rfl ?_
    by_cases c8 : v2 = 0
    · have h := h.1 c8
      refine ab_tabIn (tgt := 36) d_K_site_6 (by rw [c8]; decide) (by rw [c8]; decide) (by rw [ab_tab_in (j := 0) c8 (by decide)]; rfl) (by decide) ?_
      refine ab_aload_n (i := 0) d_K_site_36 rfl rfl ?_
      refine ab_iload_n (i := 1) d_K_site_37 rfl rfl ?_
      obtain ⟨r2, hC, h⟩ := h
      refine ab_callV (me2 := mt_K_endsAt) (b := kx) (as := [.int v1]) (st := []) (rv := (some (.int r2))) (M2 := (I, L, ab_RR, n, nc, ns)) d_K_site_38 ce_K_endsAt v_956 v_958 v_32 (by decide) rfl (by decide) hC (Nat.le_refl _) (Nat.le_refl _) hc hs (fun j h9 => by cases h9) (fun _ _ => rfl) ?_
      show ab_E w (d + 1) mt_K_site 41 [.ref kx, .int v1, .int v2] [.int r2] (I, L, ab_RR, n, nc, ns) res
      exact ab_iret (ty := .int) d_K_site_41 rfl rfl h
    by_cases c9 : v2 = 1
    · have h := h.2.1 c9
      refine ab_tabIn (tgt := 42) d_K_site_6 (by rw [c9]; decide) (by rw [c9]; decide) (by rw [ab_tab_in (j := 1) c9 (by decide)]; rfl) (by decide) ?_
      refine ab_aload_n (i := 0) d_K_site_42 rfl rfl ?_
      refine ab_iload_n (i := 1) d_K_site_43 rfl rfl ?_
      obtain ⟨r3, hC, h⟩ := h
      refine ab_callV (me2 := mt_K_endsAt) (b := kx) (as := [.int v1]) (st := []) (rv := (some (.int r3))) (M2 := (I, L, ab_RR, n, nc, ns)) d_K_site_44 ce_K_endsAt v_956 v_958 v_32 (by decide) rfl (by decide) hC (Nat.le_refl _) (Nat.le_refl _) hc hs (fun j h9 => by cases h9) (fun _ _ => rfl) ?_
      show ab_E w (d + 1) mt_K_site 47 [.ref kx, .int v1, .int v2] [.int r3] (I, L, ab_RR, n, nc, ns) res
      refine ab_iconst (v := 1) d_K_site_47 rfl ?_
      refine ab_icmp_ne (tgt := 55) d_K_site_48 (by decide) (fun c4 => ?_) (fun c4 => ?_)
      · have h := h.1 c4
        refine ab_iconst (v := 0) d_K_site_55 rfl ?_
        exact h
      · have h := h.2 c4
        refine ab_iconst (v := 1) d_K_site_51 rfl ?_
        refine ab_goto (tgt := 56) d_K_site_52 (by decide) ?_
        exact h
    by_cases c10 : v2 = 2
    · have h := h.2.2.1 c10
      refine ab_tabIn (tgt := 57) d_K_site_6 (by rw [c10]; decide) (by rw [c10]; decide) (by rw [ab_tab_in (j := 2) c10 (by decide)]; rfl) (by decide) ?_
      refine ab_aload_n (i := 0) d_K_site_57 rfl rfl ?_
      refine ab_getR (ci := 10) (k := 6) (j := kx_forest) d_K_site_58 v_478 rfl (by decide) (by decide) rfl r_kx_6 ?_
      refine ab_getR (ci := 2) (k := 5) (j := kx_forest_piece) d_K_site_61 v_341 rfl (by decide) (by decide) rfl r_kx_forest_5 ?_
      refine ab_iload_n (i := 1) d_K_site_64 rfl rfl ?_
      have g5 := h.1; have h := h.2
      refine ab_iald d_K_site_65 rfl rfl g5 ?_
      exact ab_iret (ty := .int) d_K_site_66 rfl rfl h
    by_cases c11 : v2 = 3
    · have h := h.2.2.2.1 c11
      refine ab_tabIn (tgt := 67) d_K_site_6 (by rw [c11]; decide) (by rw [c11]; decide) (by rw [ab_tab_in (j := 3) c11 (by decide)]; rfl) (by decide) ?_
      refine ab_aload_n (i := 0) d_K_site_67 rfl rfl ?_
      refine ab_iload_n (i := 1) d_K_site_68 rfl rfl ?_
      obtain ⟨r6, I7, hC, h⟩ := h
      refine ab_callV (me2 := mt_K_aloneOf) (b := kx) (as := [.int v1]) (st := []) (rv := (some (.int r6))) (M2 := (I7, L, ab_RR, n, nc, ns)) d_K_site_69 ce_K_aloneOf v_1128 v_1130 v_50 (by decide) rfl (by decide) hC (Nat.le_refl _) (Nat.le_refl _) hc hs (fun j h9 => by cases h9) (fun _ _ => rfl) ?_
      show ab_E w (d + 1) mt_K_site 72 [.ref kx, .int v1, .int v2] [.int r6] (I7, L, ab_RR, n, nc, ns) res
      exact ab_iret (ty := .int) d_K_site_72 rfl rfl h
    have hr : v2.toInt < 0 ∨ 3 < v2.toInt := by
      rcases Int.lt_or_le v2.toInt 0 with h9 | h9
      · exact Or.inl h9
      · refine Or.inr (Int.not_le.mp fun h8 => ?_)
        exact ab_tab_out (lo := 0) (hi := 3) (k := 4) h9 h8 (by decide) (by
          intro j hj
          match j, hj with
          | 0, _ => exact c8
          | 1, _ => exact c9
          | 2, _ => exact c10
          | 3, _ => exact c11)
    have h := h.2.2.2.2 hr
    refine ab_tabOut (tgt := 73) d_K_site_6 hr (by decide) ?_
    exact ab_throw (E := "java/util/NoSuchElementException") d_K_site_73 d_K_site_76 d_K_site_77 d_K_site_80 (by decide +kernel) v_1049 v_163 x3_K_185 x4_K_185 h8 (by decide) h
  · exact ab_callVX (me2 := mt_K_needSite) (b := kx) (as := [.int v1]) (st := []) (M2 := (I, L, ab_RR, n, nc + 1, ns + 6)) d_K_site_2 ce_K_needSite v_1124 v_1126 v_49 (by decide) rfl (by decide) hC (Nat.le_succ _) (Nat.le_add_right _ _) (fun _ _ => rfl) h
theorem q_K_site_56 {w : ab_Wd} {d n nc ns : Nat} {I : Nat → Nat → Int32} {L : Nat → Nat → Int64} {res : ab_Re} (v1 : Int32) (v2 : Int32) (s0 : Int32) (h8 : 8 ≤ (d + 1)) (hc : nc ≤ res.2.2.2.2.2.1) (hs : ns ≤ res.2.2.2.2.2.2)
    (h : res = (.inl (some (.int s0)), (I, L, ab_RR, n, nc, ns))) : ab_E w (d + 1) mt_K_site 56 [.ref kx, .int v1, .int v2] [.int s0] (I, L, ab_RR, n, nc, ns) res := by
  exact ab_iret (ty := .int) d_K_site_56 rfl rfl h
