theorem d_M_lay_0 : decode (ab_bc mt_M_lay) 0 = .ok (.aload_n 0, 1) := by decide +kernel
theorem d_M_lay_1 : decode (ab_bc mt_M_lay) 1 = .ok (.iconst 0, 1) := by decide +kernel
theorem d_M_lay_2 : decode (ab_bc mt_M_lay) 2 = .ok (.putfield 108, 3) := by decide +kernel
theorem d_M_lay_5 : decode (ab_bc mt_M_lay) 5 = .ok (.aload_n 0, 1) := by decide +kernel
theorem d_M_lay_6 : decode (ab_bc mt_M_lay) 6 = .ok (.iload_n 1, 1) := by decide +kernel
theorem d_M_lay_7 : decode (ab_bc mt_M_lay) 7 = .ok (.invokevirtual 357, 3) := by decide +kernel
theorem d_M_lay_10 : decode (ab_bc mt_M_lay) 10 = .ok (.ifCond .eq 46, 3) := by decide +kernel
theorem d_M_lay_13 : decode (ab_bc mt_M_lay) 13 = .ok (.aload_n 0, 1) := by decide +kernel
theorem d_M_lay_14 : decode (ab_bc mt_M_lay) 14 = .ok (.iload_n 2, 1) := by decide +kernel
theorem d_M_lay_15 : decode (ab_bc mt_M_lay) 15 = .ok (.invokevirtual 357, 3) := by decide +kernel
theorem d_M_lay_18 : decode (ab_bc mt_M_lay) 18 = .ok (.ifCond .eq 38, 3) := by decide +kernel
theorem d_M_lay_21 : decode (ab_bc mt_M_lay) 21 = .ok (.iload_n 1, 1) := by decide +kernel
theorem d_M_lay_22 : decode (ab_bc mt_M_lay) 22 = .ok (.iload_n 2, 1) := by decide +kernel
theorem d_M_lay_23 : decode (ab_bc mt_M_lay) 23 = .ok (.if_icmp .eq 33, 3) := by decide +kernel
theorem d_M_lay_26 : decode (ab_bc mt_M_lay) 26 = .ok (.iload_n 3, 1) := by decide +kernel
theorem d_M_lay_27 : decode (ab_bc mt_M_lay) 27 = .ok (.iconst 1, 1) := by decide +kernel
theorem d_M_lay_28 : decode (ab_bc mt_M_lay) 28 = .ok (.sipush 999, 3) := by decide +kernel
theorem d_M_lay_31 : decode (ab_bc mt_M_lay) 31 = .ok (.invokestatic 344, 3) := by decide +kernel
theorem d_M_lay_34 : decode (ab_bc mt_M_lay) 34 = .ok (.ifCond .eq 22, 3) := by decide +kernel
theorem d_M_lay_37 : decode (ab_bc mt_M_lay) 37 = .ok (.iload 4, 2) := by decide +kernel
theorem d_M_lay_39 : decode (ab_bc mt_M_lay) 39 = .ok (.iconst 0, 1) := by decide +kernel
theorem d_M_lay_40 : decode (ab_bc mt_M_lay) 40 = .ok (.iconst 3, 1) := by decide +kernel
theorem d_M_lay_41 : decode (ab_bc mt_M_lay) 41 = .ok (.invokestatic 344, 3) := by decide +kernel
theorem d_M_lay_44 : decode (ab_bc mt_M_lay) 44 = .ok (.ifCond .eq 12, 3) := by decide +kernel
theorem d_M_lay_47 : decode (ab_bc mt_M_lay) 47 = .ok (.aload_n 0, 1) := by decide +kernel
theorem d_M_lay_48 : decode (ab_bc mt_M_lay) 48 = .ok (.invokevirtual 234, 3) := by decide +kernel
theorem d_M_lay_51 : decode (ab_bc mt_M_lay) 51 = .ok (.bipush 24, 2) := by decide +kernel
theorem d_M_lay_53 : decode (ab_bc mt_M_lay) 53 = .ok (.if_icmp .ne 9, 3) := by decide +kernel
theorem d_M_lay_56 : decode (ab_bc mt_M_lay) 56 = .ok (.aload_n 0, 1) := by decide +kernel
theorem d_M_lay_57 : decode (ab_bc mt_M_lay) 57 = .ok (.iconst 1, 1) := by decide +kernel
theorem d_M_lay_58 : decode (ab_bc mt_M_lay) 58 = .ok (.invokevirtual 434, 3) := by decide +kernel
theorem d_M_lay_61 : decode (ab_bc mt_M_lay) 61 = .ok (.ireturn, 1) := by decide +kernel
theorem d_M_lay_62 : decode (ab_bc mt_M_lay) 62 = .ok (.aload_n 0, 1) := by decide +kernel
theorem d_M_lay_63 : decode (ab_bc mt_M_lay) 63 = .ok (.invokevirtual 437, 3) := by decide +kernel
theorem d_M_lay_66 : decode (ab_bc mt_M_lay) 66 = .ok (.aload_n 0, 1) := by decide +kernel
theorem d_M_lay_67 : decode (ab_bc mt_M_lay) 67 = .ok (.invokevirtual 251, 3) := by decide +kernel
theorem d_M_lay_70 : decode (ab_bc mt_M_lay) 70 = .ok (.istore 5, 2) := by decide +kernel
theorem d_M_lay_72 : decode (ab_bc mt_M_lay) 72 = .ok (.aload_n 0, 1) := by decide +kernel
theorem d_M_lay_73 : decode (ab_bc mt_M_lay) 73 = .ok (.invokevirtual 234, 3) := by decide +kernel
theorem d_M_lay_76 : decode (ab_bc mt_M_lay) 76 = .ok (.istore 6, 2) := by decide +kernel
theorem d_M_lay_78 : decode (ab_bc mt_M_lay) 78 = .ok (.aload_n 0, 1) := by decide +kernel
theorem d_M_lay_79 : decode (ab_bc mt_M_lay) 79 = .ok (.getfield 24, 3) := by decide +kernel
theorem d_M_lay_82 : decode (ab_bc mt_M_lay) 82 = .ok (.iconst 3, 1) := by decide +kernel
theorem d_M_lay_83 : decode (ab_bc mt_M_lay) 83 = .ok (.iload 6, 2) := by decide +kernel
theorem d_M_lay_85 : decode (ab_bc mt_M_lay) 85 = .ok (.iadd, 1) := by decide +kernel
theorem d_M_lay_86 : decode (ab_bc mt_M_lay) 86 = .ok (.iload_n 1, 1) := by decide +kernel
theorem d_M_lay_87 : decode (ab_bc mt_M_lay) 87 = .ok (.iastore, 1) := by decide +kernel
theorem d_M_lay_88 : decode (ab_bc mt_M_lay) 88 = .ok (.aload_n 0, 1) := by decide +kernel
theorem d_M_lay_89 : decode (ab_bc mt_M_lay) 89 = .ok (.getfield 24, 3) := by decide +kernel
theorem d_M_lay_92 : decode (ab_bc mt_M_lay) 92 = .ok (.bipush 27, 2) := by decide +kernel
theorem d_M_lay_94 : decode (ab_bc mt_M_lay) 94 = .ok (.iload 6, 2) := by decide +kernel
theorem d_M_lay_96 : decode (ab_bc mt_M_lay) 96 = .ok (.iadd, 1) := by decide +kernel
theorem d_M_lay_97 : decode (ab_bc mt_M_lay) 97 = .ok (.iload_n 2, 1) := by decide +kernel
theorem d_M_lay_98 : decode (ab_bc mt_M_lay) 98 = .ok (.iastore, 1) := by decide +kernel
theorem d_M_lay_99 : decode (ab_bc mt_M_lay) 99 = .ok (.aload_n 0, 1) := by decide +kernel
theorem d_M_lay_100 : decode (ab_bc mt_M_lay) 100 = .ok (.getfield 24, 3) := by decide +kernel
theorem d_M_lay_103 : decode (ab_bc mt_M_lay) 103 = .ok (.bipush 51, 2) := by decide +kernel
theorem d_M_lay_105 : decode (ab_bc mt_M_lay) 105 = .ok (.iload 6, 2) := by decide +kernel
theorem d_M_lay_107 : decode (ab_bc mt_M_lay) 107 = .ok (.iadd, 1) := by decide +kernel
theorem d_M_lay_108 : decode (ab_bc mt_M_lay) 108 = .ok (.iload_n 3, 1) := by decide +kernel
theorem d_M_lay_109 : decode (ab_bc mt_M_lay) 109 = .ok (.iastore, 1) := by decide +kernel
theorem d_M_lay_110 : decode (ab_bc mt_M_lay) 110 = .ok (.aload_n 0, 1) := by decide +kernel
theorem d_M_lay_111 : decode (ab_bc mt_M_lay) 111 = .ok (.getfield 24, 3) := by decide +kernel
theorem d_M_lay_114 : decode (ab_bc mt_M_lay) 114 = .ok (.bipush 75, 2) := by decide +kernel
theorem d_M_lay_116 : decode (ab_bc mt_M_lay) 116 = .ok (.iload 6, 2) := by decide +kernel
theorem d_M_lay_118 : decode (ab_bc mt_M_lay) 118 = .ok (.iadd, 1) := by decide +kernel
theorem d_M_lay_119 : decode (ab_bc mt_M_lay) 119 = .ok (.iload 4, 2) := by decide +kernel
theorem d_M_lay_121 : decode (ab_bc mt_M_lay) 121 = .ok (.iastore, 1) := by decide +kernel
theorem d_M_lay_122 : decode (ab_bc mt_M_lay) 122 = .ok (.aload_n 0, 1) := by decide +kernel
theorem d_M_lay_123 : decode (ab_bc mt_M_lay) 123 = .ok (.getfield 24, 3) := by decide +kernel
theorem d_M_lay_126 : decode (ab_bc mt_M_lay) 126 = .ok (.iconst 1, 1) := by decide +kernel
theorem d_M_lay_127 : decode (ab_bc mt_M_lay) 127 = .ok (.dup2, 1) := by decide +kernel
theorem d_M_lay_128 : decode (ab_bc mt_M_lay) 128 = .ok (.iaload, 1) := by decide +kernel
theorem d_M_lay_129 : decode (ab_bc mt_M_lay) 129 = .ok (.iconst 1, 1) := by decide +kernel
theorem d_M_lay_130 : decode (ab_bc mt_M_lay) 130 = .ok (.iload 6, 2) := by decide +kernel
theorem d_M_lay_132 : decode (ab_bc mt_M_lay) 132 = .ok (.ishl, 1) := by decide +kernel
theorem d_M_lay_133 : decode (ab_bc mt_M_lay) 133 = .ok (.ior, 1) := by decide +kernel
theorem d_M_lay_134 : decode (ab_bc mt_M_lay) 134 = .ok (.iastore, 1) := by decide +kernel
theorem d_M_lay_135 : decode (ab_bc mt_M_lay) 135 = .ok (.aload_n 0, 1) := by decide +kernel
theorem d_M_lay_136 : decode (ab_bc mt_M_lay) 136 = .ok (.getfield 24, 3) := by decide +kernel
theorem d_M_lay_139 : decode (ab_bc mt_M_lay) 139 = .ok (.iconst 0, 1) := by decide +kernel
theorem d_M_lay_140 : decode (ab_bc mt_M_lay) 140 = .ok (.dup2, 1) := by decide +kernel
theorem d_M_lay_141 : decode (ab_bc mt_M_lay) 141 = .ok (.iaload, 1) := by decide +kernel
theorem d_M_lay_142 : decode (ab_bc mt_M_lay) 142 = .ok (.iconst 1, 1) := by decide +kernel
theorem d_M_lay_143 : decode (ab_bc mt_M_lay) 143 = .ok (.iadd, 1) := by decide +kernel
theorem d_M_lay_144 : decode (ab_bc mt_M_lay) 144 = .ok (.iastore, 1) := by decide +kernel
theorem d_M_lay_145 : decode (ab_bc mt_M_lay) 145 = .ok (.aload_n 0, 1) := by decide +kernel
theorem d_M_lay_146 : decode (ab_bc mt_M_lay) 146 = .ok (.iconst 5, 1) := by decide +kernel
theorem d_M_lay_147 : decode (ab_bc mt_M_lay) 147 = .ok (.iload 6, 2) := by decide +kernel
theorem d_M_lay_149 : decode (ab_bc mt_M_lay) 149 = .ok (.iload 5, 2) := by decide +kernel
theorem d_M_lay_151 : decode (ab_bc mt_M_lay) 151 = .ok (.invokevirtual 265, 3) := by decide +kernel
theorem d_M_lay_154 : decode (ab_bc mt_M_lay) 154 = .ok (.iload 6, 2) := by decide +kernel
theorem d_M_lay_156 : decode (ab_bc mt_M_lay) 156 = .ok (.ireturn, 1) := by decide +kernel
-- CableKeeperModel.lay(IIII)I over mx
theorem q_M_lay_0 {w : ab_Wd} {d n nc ns : Nat} {I : Nat → Nat → Int32} {L : Nat → Nat → Int64} {res : ab_Re} (v1 : Int32) (v2 : Int32) (v3 : Int32) (v4 : Int32) (hc : nc ≤ res.2.2.2.2.2.1) (hs : ns ≤ res.2.2.2.2.2.2)
    (h : ∃ (r1 : Int32), ab_C w d mt_M_isSite [.ref mx, .int v1] ((ab_up I mx 1 0), L, ab_RR, n, nc, ns) (.inl (some (.int r1)), ((ab_up I mx 1 0), L, ab_RR, n, nc, ns)) ∧ ((r1 = 0 → (ab_E w (d + 1) mt_M_lay 56 [.ref mx, .int v1, .int v2, .int v3, .int v4, .null, .null] [] ((ab_up I mx 1 0), L, ab_RR, n, nc, ns) res)) ∧ (¬ r1 = 0 → (∃ (r3 : Int32), ab_C w d mt_M_isSite [.ref mx, .int v2] ((ab_up I mx 1 0), L, ab_RR, n, nc, ns) (.inl (some (.int r3)), ((ab_up I mx 1 0), L, ab_RR, n, nc, ns)) ∧ ((r3 = 0 → (ab_E w (d + 1) mt_M_lay 56 [.ref mx, .int v1, .int v2, .int v3, .int v4, .null, .null] [] ((ab_up I mx 1 0), L, ab_RR, n, nc, ns) res)) ∧ (¬ r3 = 0 → ((v1 = v2 → (ab_E w (d + 1) mt_M_lay 56 [.ref mx, .int v1, .int v2, .int v3, .int v4, .null, .null] [] ((ab_up I mx 1 0), L, ab_RR, n, nc, ns) res)) ∧ (¬ v1 = v2 → (∃ (r6 : Int32), ab_C w d mt_M_isIn [.int v3, .int 1, .int 999] ((ab_up I mx 1 0), L, ab_RR, n, nc, ns) (.inl (some (.int r6)), ((ab_up I mx 1 0), L, ab_RR, n, nc, ns)) ∧ ((r6 = 0 → (ab_E w (d + 1) mt_M_lay 56 [.ref mx, .int v1, .int v2, .int v3, .int v4, .null, .null] [] ((ab_up I mx 1 0), L, ab_RR, n, nc, ns) res)) ∧ (¬ r6 = 0 → (∃ (r8 : Int32), ab_C w d mt_M_isIn [.int v4, .int 0, .int 3] ((ab_up I mx 1 0), L, ab_RR, n, nc, ns) (.inl (some (.int r8)), ((ab_up I mx 1 0), L, ab_RR, n, nc, ns)) ∧ ((r8 = 0 → (ab_E w (d + 1) mt_M_lay 56 [.ref mx, .int v1, .int v2, .int v3, .int v4, .null, .null] [] ((ab_up I mx 1 0), L, ab_RR, n, nc, ns) res)) ∧ (¬ r8 = 0 → (∃ (r10 : Int32), ab_C w d mt_M_many [.ref mx] ((ab_up I mx 1 0), L, ab_RR, n, nc, ns) (.inl (some (.int r10)), ((ab_up I mx 1 0), L, ab_RR, n, nc, ns)) ∧ ((¬ r10 = 24 → (∃ (I13 : Nat → Nat → Int32), ab_C w d mt_M_keep [.ref mx] ((ab_up I mx 1 0), L, ab_RR, n, nc, ns) (.inl none, (I13, L, ab_RR, n, nc, ns)) ∧ ∃ (r14 : Int32) (I15 : Nat → Nat → Int32), ab_C w d mt_M_netNow [.ref mx] (I13, L, ab_RR, n, nc, ns) (.inl (some (.int r14)), (I15, L, ab_RR, n, nc, ns)) ∧ ∃ (r16 : Int32), ab_C w d mt_M_many [.ref mx] (I15, L, ab_RR, n, nc, ns) (.inl (some (.int r16)), (I15, L, ab_RR, n, nc, ns)) ∧ (vp_in (3 + r16) 399) ∧ (vp_in (27 + r16) 399) ∧ (vp_in (51 + r16) 399) ∧ (vp_in (75 + r16) 399) ∧ ∃ (I22 : Nat → Nat → Int32), ab_C w d mt_M_swaps [.ref mx, .int 5, .int r16, .int r14] ((ab_up (ab_up (ab_up (ab_up (ab_up (ab_up I15 mx_now (3 + r16).toNatClampNeg v1) mx_now (27 + r16).toNatClampNeg v2) mx_now (51 + r16).toNatClampNeg v3) mx_now (75 + r16).toNatClampNeg v4) mx_now 1 (((ab_up (ab_up (ab_up (ab_up I15 mx_now (3 + r16).toNatClampNeg v1) mx_now (27 + r16).toNatClampNeg v2) mx_now (51 + r16).toNatClampNeg v3) mx_now (75 + r16).toNatClampNeg v4) mx_now 1) ||| (1 <<< (r16 &&& 31)))) mx_now 0 (((ab_up (ab_up (ab_up (ab_up (ab_up I15 mx_now (3 + r16).toNatClampNeg v1) mx_now (27 + r16).toNatClampNeg v2) mx_now (51 + r16).toNatClampNeg v3) mx_now (75 + r16).toNatClampNeg v4) mx_now 1 (((ab_up (ab_up (ab_up (ab_up I15 mx_now (3 + r16).toNatClampNeg v1) mx_now (27 + r16).toNatClampNeg v2) mx_now (51 + r16).toNatClampNeg v3) mx_now (75 + r16).toNatClampNeg v4) mx_now 1) ||| (1 <<< (r16 &&& 31)))) mx_now 0) + 1)), L, ab_RR, n, nc, ns) (.inl none, (I22, L, ab_RR, n, nc, ns)) ∧ res = (.inl (some (.int r16)), (I22, L, ab_RR, n, nc, ns)))) ∧ (r10 = 24 → (ab_E w (d + 1) mt_M_lay 56 [.ref mx, .int v1, .int v2, .int v3, .int v4, .null, .null] [] ((ab_up I mx 1 0), L, ab_RR, n, nc, ns) res)))))))))))))))))) : ab_E w (d + 1) mt_M_lay 0 [.ref mx, .int v1, .int v2, .int v3, .int v4, .null, .null] [] (I, L, ab_RR, n, nc, ns) res := by
  refine ab_aload_n (i := 0) d_M_lay_0 rfl rfl ?_
  refine ab_iconst (v := 0) d_M_lay_1 rfl ?_
  refine ab_putI (ci := 11) (k := 1) d_M_lay_2 v_1369 rfl (by decide) (by decide) rfl (Or.inl rfl) rfl rfl ?_
  refine ab_aload_n (i := 0) d_M_lay_5 rfl rfl ?_
  refine ab_iload_n (i := 1) d_M_lay_6 rfl rfl ?_
  obtain ⟨r1, hC, h⟩ := h
  refine ab_callV (me2 := mt_M_isSite) (b := mx) (as := [.int v1]) (st := []) (rv := (some (.int r1))) (M2 := ((ab_up I mx 1 0), L, ab_RR, n, nc, ns)) d_M_lay_7 ce_M_isSite v_1783 v_1785 v_110 (by decide) rfl (by decide) hC (Nat.le_refl _) (Nat.le_refl _) hc hs (fun j h9 => by cases h9) (fun _ _ => rfl) ?_
  show ab_E w (d + 1) mt_M_lay 10 [.ref mx, .int v1, .int v2, .int v3, .int v4, .null, .null] [.int r1] ((ab_up I mx 1 0), L, ab_RR, n, nc, ns) res
  refine ab_if_eq (tgt := 56) d_M_lay_10 (by decide) (fun c2 => ?_) (fun c2 => ?_)
  · have h := h.1 c2
    exact h
  · have h := h.2 c2
    refine ab_aload_n (i := 0) d_M_lay_13 rfl rfl ?_
    refine ab_iload_n (i := 2) d_M_lay_14 rfl rfl ?_
    obtain ⟨r3, hC, h⟩ := h
    refine ab_callV (me2 := mt_M_isSite) (b := mx) (as := [.int v2]) (st := []) (rv := (some (.int r3))) (M2 := ((ab_up I mx 1 0), L, ab_RR, n, nc, ns)) d_M_lay_15 ce_M_isSite v_1783 v_1785 v_110 (by decide) rfl (by decide) hC (Nat.le_refl _) (Nat.le_refl _) hc hs (fun j h9 => by cases h9) (fun _ _ => rfl) ?_
    show ab_E w (d + 1) mt_M_lay 18 [.ref mx, .int v1, .int v2, .int v3, .int v4, .null, .null] [.int r3] ((ab_up I mx 1 0), L, ab_RR, n, nc, ns) res
    refine ab_if_eq (tgt := 56) d_M_lay_18 (by decide) (fun c4 => ?_) (fun c4 => ?_)
    · have h := h.1 c4
      exact h
    · have h := h.2 c4
      refine ab_iload_n (i := 1) d_M_lay_21 rfl rfl ?_
      refine ab_iload_n (i := 2) d_M_lay_22 rfl rfl ?_
      refine ab_icmp_eq (tgt := 56) d_M_lay_23 (by decide) (fun c5 => ?_) (fun c5 => ?_)
      · have h := h.1 c5
        exact h
      · have h := h.2 c5
        refine ab_iload_n (i := 3) d_M_lay_26 rfl rfl ?_
        refine ab_iconst (v := 1) d_M_lay_27 rfl ?_
        refine ab_sipush (v := 999) d_M_lay_28 rfl ?_
        obtain ⟨r6, hC, h⟩ := h
        refine ab_callS (me2 := mt_M_isIn) (as := [.int v3, .int 1, .int 999]) (st := []) (rv := (some (.int r6))) (M2 := ((ab_up I mx 1 0), L, ab_RR, n, nc, ns)) d_M_lay_31 ce_M_isIn ⟨v_1753, Or.inl v_1752⟩ (by decide) hC (Nat.le_refl _) (Nat.le_refl _) hc hs (fun j h9 => by cases h9) (fun _ _ => rfl) ?_
        show ab_E w (d + 1) mt_M_lay 34 [.ref mx, .int v1, .int v2, .int v3, .int v4, .null, .null] [.int r6] ((ab_up I mx 1 0), L, ab_RR, n, nc, ns) res
        refine ab_if_eq (tgt := 56) d_M_lay_34 (by decide) (fun c7 => ?_) (fun c7 => ?_)
        · have h := h.1 c7
          exact h
        · have h := h.2 c7
          refine ab_iload (i := 4) d_M_lay_37 rfl ?_
          refine ab_iconst (v := 0) d_M_lay_39 rfl ?_
          refine ab_iconst (v := 3) d_M_lay_40 rfl ?_
          obtain ⟨r8, hC, h⟩ := h
          refine ab_callS (me2 := mt_M_isIn) (as := [.int v4, .int 0, .int 3]) (st := []) (rv := (some (.int r8))) (M2 := ((ab_up I mx 1 0), L, ab_RR, n, nc, ns)) d_M_lay_41 ce_M_isIn ⟨v_1753, Or.inl v_1752⟩ (by decide) hC (Nat.le_refl _) (Nat.le_refl _) hc hs (fun j h9 => by cases h9) (fun _ _ => rfl) ?_
          show ab_E w (d + 1) mt_M_lay 44 [.ref mx, .int v1, .int v2, .int v3, .int v4, .null, .null] [.int r8] ((ab_up I mx 1 0), L, ab_RR, n, nc, ns) res
          refine ab_if_eq (tgt := 56) d_M_lay_44 (by decide) (fun c9 => ?_) (fun c9 => ?_)
          · have h := h.1 c9
            exact h
          · have h := h.2 c9
            refine ab_aload_n (i := 0) d_M_lay_47 rfl rfl ?_
            obtain ⟨r10, hC, h⟩ := h
            refine ab_callV (me2 := mt_M_many) (b := mx) (as := []) (st := []) (rv := (some (.int r10))) (M2 := ((ab_up I mx 1 0), L, ab_RR, n, nc, ns)) d_M_lay_48 ce_M_many v_1635 v_1637 v_79 (by decide) rfl (by decide) hC (Nat.le_refl _) (Nat.le_refl _) hc hs (fun j h9 => by cases h9) (fun _ _ => rfl) ?_
            show ab_E w (d + 1) mt_M_lay 51 [.ref mx, .int v1, .int v2, .int v3, .int v4, .null, .null] [.int r10] ((ab_up I mx 1 0), L, ab_RR, n, nc, ns) res
            refine ab_bipush (v := 24) d_M_lay_51 rfl ?_
            refine ab_icmp_ne (tgt := 62) d_M_lay_53 (by decide) (fun c11 => ?_) (fun c11 => ?_)
            · have h := h.1 c11
              refine ab_aload_n (i := 0) d_M_lay_62 rfl rfl ?_
              obtain ⟨I13, hC, h⟩ := h
              refine ab_callV (me2 := mt_M_keep) (b := mx) (as := []) (st := []) (rv := none) (M2 := (I13, L, ab_RR, n, nc, ns)) d_M_lay_63 ce_M_keep v_1904 v_1906 v_129 (by decide) rfl (by decide) hC (Nat.le_refl _) (Nat.le_refl _) hc hs (fun j h9 => by cases h9) (fun _ _ => rfl) ?_
              show ab_E w (d + 1) mt_M_lay 66 [.ref mx, .int v1, .int v2, .int v3, .int v4, .null, .null] [] (I13, L, ab_RR, n, nc, ns) res
              refine ab_aload_n (i := 0) d_M_lay_66 rfl rfl ?_
              obtain ⟨r14, I15, hC, h⟩ := h
              refine ab_callV (me2 := mt_M_netNow) (b := mx) (as := []) (st := []) (rv := (some (.int r14))) (M2 := (I15, L, ab_RR, n, nc, ns)) d_M_lay_67 ce_M_netNow v_1639 v_1641 v_80 (by decide) rfl (by decide) hC (Nat.le_refl _) (Nat.le_refl _) hc hs (fun j h9 => by cases h9) (fun _ _ => rfl) ?_
              show ab_E w (d + 1) mt_M_lay 70 [.ref mx, .int v1, .int v2, .int v3, .int v4, .null, .null] [.int r14] (I15, L, ab_RR, n, nc, ns) res
              refine ab_istore (i := 5) d_M_lay_70 (by decide) (Or.inr rfl) ?_
              refine ab_aload_n (i := 0) d_M_lay_72 rfl rfl ?_
              obtain ⟨r16, hC, h⟩ := h
              refine ab_callV (me2 := mt_M_many) (b := mx) (as := []) (st := []) (rv := (some (.int r16))) (M2 := (I15, L, ab_RR, n, nc, ns)) d_M_lay_73 ce_M_many v_1635 v_1637 v_79 (by decide) rfl (by decide) hC (Nat.le_refl _) (Nat.le_refl _) hc hs (fun j h9 => by cases h9) (fun _ _ => rfl) ?_
              show ab_E w (d + 1) mt_M_lay 76 [.ref mx, .int v1, .int v2, .int v3, .int v4, .int r14, .null] [.int r16] (I15, L, ab_RR, n, nc, ns) res
              refine ab_istore (i := 6) d_M_lay_76 (by decide) (Or.inr rfl) ?_
              refine ab_aload_n (i := 0) d_M_lay_78 rfl rfl ?_
              refine ab_getR (ci := 11) (k := 4) (j := mx_now) d_M_lay_79 v_1372 rfl (by decide) (by decide) rfl r_mx_4 ?_
              refine ab_iconst (v := 3) d_M_lay_82 rfl ?_
              refine ab_iload (i := 6) d_M_lay_83 rfl ?_
              refine ab_iadd d_M_lay_85 ?_
              refine ab_iload_n (i := 1) d_M_lay_86 rfl rfl ?_
              have g17 := h.1; have h := h.2
              refine ab_iast d_M_lay_87 rfl rfl g17 ?_
              refine ab_aload_n (i := 0) d_M_lay_88 rfl rfl ?_
              refine ab_getR (ci := 11) (k := 4) (j := mx_now) d_M_lay_89 v_1372 rfl (by decide) (by decide) rfl r_mx_4 ?_
              refine ab_bipush (v := 27) d_M_lay_92 rfl ?_
              refine ab_iload (i := 6) d_M_lay_94 rfl ?_
              refine ab_iadd d_M_lay_96 ?_
              refine ab_iload_n (i := 2) d_M_lay_97 rfl rfl ?_
              have g18 := h.1; have h := h.2
              refine ab_iast d_M_lay_98 rfl rfl g18 ?_
              refine ab_aload_n (i := 0) d_M_lay_99 rfl rfl ?_
              refine ab_getR (ci := 11) (k := 4) (j := mx_now) d_M_lay_100 v_1372 rfl (by decide) (by decide) rfl r_mx_4 ?_
              refine ab_bipush (v := 51) d_M_lay_103 rfl ?_
              refine ab_iload (i := 6) d_M_lay_105 rfl ?_
              refine ab_iadd d_M_lay_107 ?_
              refine ab_iload_n (i := 3) d_M_lay_108 rfl rfl ?_
              have g19 := h.1; have h := h.2
              refine ab_iast d_M_lay_109 rfl rfl g19 ?_
              refine ab_aload_n (i := 0) d_M_lay_110 rfl rfl ?_
              refine ab_getR (ci := 11) (k := 4) (j := mx_now) d_M_lay_111 v_1372 rfl (by decide) (by decide) rfl r_mx_4 ?_
              refine ab_bipush (v := 75) d_M_lay_114 rfl ?_
              refine ab_iload (i := 6) d_M_lay_116 rfl ?_
              refine ab_iadd d_M_lay_118 ?_
              refine ab_iload (i := 4) d_M_lay_119 rfl ?_
              have g20 := h.1; have h := h.2
              refine ab_iast d_M_lay_121 rfl rfl g20 ?_
              refine ab_aload_n (i := 0) d_M_lay_122 rfl rfl ?_
              refine ab_getR (ci := 11) (k := 4) (j := mx_now) d_M_lay_123 v_1372 rfl (by decide) (by decide) rfl r_mx_4 ?_
              refine ab_iconst (v := 1) d_M_lay_126 rfl ?_
              refine ab_dup2 d_M_lay_127 ?_
              refine ab_iald d_M_lay_128 rfl rfl (by unfold vp_in; decide) ?_
              refine ab_iconst (v := 1) d_M_lay_129 rfl ?_
              refine ab_iload (i := 6) d_M_lay_130 rfl ?_
              refine ab_ishl d_M_lay_132 ?_
              refine ab_ior d_M_lay_133 ?_
              refine ab_iast d_M_lay_134 rfl rfl (by unfold vp_in; decide) ?_
              refine ab_aload_n (i := 0) d_M_lay_135 rfl rfl ?_
              refine ab_getR (ci := 11) (k := 4) (j := mx_now) d_M_lay_136 v_1372 rfl (by decide) (by decide) rfl r_mx_4 ?_
              refine ab_iconst (v := 0) d_M_lay_139 rfl ?_
              refine ab_dup2 d_M_lay_140 ?_
              refine ab_iald d_M_lay_141 rfl rfl (by unfold vp_in; decide) ?_
              refine ab_iconst (v := 1) d_M_lay_142 rfl ?_
              refine ab_iadd d_M_lay_143 ?_
              refine ab_iast d_M_lay_144 rfl rfl (by unfold vp_in; decide) ?_
              refine ab_aload_n (i := 0) d_M_lay_145 rfl rfl ?_
              refine ab_iconst (v := 5) d_M_lay_146 rfl ?_
              refine ab_iload (i := 6) d_M_lay_147 rfl ?_
              refine ab_iload (i := 5) d_M_lay_149 rfl ?_
              obtain ⟨I22, hC, h⟩ := h
              refine ab_callV (me2 := mt_M_swaps) (b := mx) (as := [.int 5, .int r16, .int r14]) (st := []) (rv := none) (M2 := (I22, L, ab_RR, n, nc, ns)) d_M_lay_151 ce_M_swaps v_1912 v_1914 v_131 (by decide) rfl (by decide) hC (Nat.le_refl _) (Nat.le_refl _) hc hs (fun j h9 => by cases h9) (fun _ _ => rfl) ?_
              show ab_E w (d + 1) mt_M_lay 154 [.ref mx, .int v1, .int v2, .int v3, .int v4, .int r14, .int r16] [] (I22, L, ab_RR, n, nc, ns) res
              refine ab_iload (i := 6) d_M_lay_154 rfl ?_
              exact ab_iret (ty := .int) d_M_lay_156 rfl rfl h
            · have h := h.2 c11
              exact h
theorem q_M_lay_56 {w : ab_Wd} {d n nc ns : Nat} {I : Nat → Nat → Int32} {L : Nat → Nat → Int64} {res : ab_Re} (v1 : Int32) (v2 : Int32) (v3 : Int32) (v4 : Int32) (hc : nc ≤ res.2.2.2.2.2.1) (hs : ns ≤ res.2.2.2.2.2.2)
    (h : ∃ (r1 : Int32) (I2 : Nat → Nat → Int32), ab_C w d mt_M_refuse [.ref mx, .int 1] (I, L, ab_RR, n, nc, ns) (.inl (some (.int r1)), (I2, L, ab_RR, n, nc, ns)) ∧ res = (.inl (some (.int r1)), (I2, L, ab_RR, n, nc, ns))) : ab_E w (d + 1) mt_M_lay 56 [.ref mx, .int v1, .int v2, .int v3, .int v4, .null, .null] [] (I, L, ab_RR, n, nc, ns) res := by
  refine ab_aload_n (i := 0) d_M_lay_56 rfl rfl ?_
  refine ab_iconst (v := 1) d_M_lay_57 rfl ?_
  obtain ⟨r1, I2, hC, h⟩ := h
  refine ab_callV (me2 := mt_M_refuse) (b := mx) (as := [.int 1]) (st := []) (rv := (some (.int r1))) (M2 := (I2, L, ab_RR, n, nc, ns)) d_M_lay_58 ce_M_refuse v_1900 v_1902 v_128 (by decide) rfl (by decide) hC (Nat.le_refl _) (Nat.le_refl _) hc hs (fun j h9 => by cases h9) (fun _ _ => rfl) ?_
  show ab_E w (d + 1) mt_M_lay 61 [.ref mx, .int v1, .int v2, .int v3, .int v4, .null, .null] [.int r1] (I2, L, ab_RR, n, nc, ns) res
  exact ab_iret (ty := .int) d_M_lay_61 rfl rfl h
theorem d_M_undo_0 : decode (ab_bc mt_M_undo) 0 = .ok (.aload_n 0, 1) := by decide +kernel
theorem d_M_undo_1 : decode (ab_bc mt_M_undo) 1 = .ok (.iconst 0, 1) := by decide +kernel
theorem d_M_undo_2 : decode (ab_bc mt_M_undo) 2 = .ok (.putfield 108, 3) := by decide +kernel
theorem d_M_undo_5 : decode (ab_bc mt_M_undo) 5 = .ok (.aload_n 0, 1) := by decide +kernel
theorem d_M_undo_6 : decode (ab_bc mt_M_undo) 6 = .ok (.getfield 212, 3) := by decide +kernel
theorem d_M_undo_9 : decode (ab_bc mt_M_undo) 9 = .ok (.ifCond .ne 5, 3) := by decide +kernel
theorem d_M_undo_12 : decode (ab_bc mt_M_undo) 12 = .ok (.iconst (-1), 1) := by decide +kernel
theorem d_M_undo_13 : decode (ab_bc mt_M_undo) 13 = .ok (.ireturn, 1) := by decide +kernel
theorem d_M_undo_14 : decode (ab_bc mt_M_undo) 14 = .ok (.aload_n 0, 1) := by decide +kernel
theorem d_M_undo_15 : decode (ab_bc mt_M_undo) 15 = .ok (.dup, 1) := by decide +kernel
theorem d_M_undo_16 : decode (ab_bc mt_M_undo) 16 = .ok (.getfield 212, 3) := by decide +kernel
theorem d_M_undo_19 : decode (ab_bc mt_M_undo) 19 = .ok (.iconst 1, 1) := by decide +kernel
theorem d_M_undo_20 : decode (ab_bc mt_M_undo) 20 = .ok (.isub, 1) := by decide +kernel
theorem d_M_undo_21 : decode (ab_bc mt_M_undo) 21 = .ok (.putfield 212, 3) := by decide +kernel
theorem d_M_undo_24 : decode (ab_bc mt_M_undo) 24 = .ok (.iconst 0, 1) := by decide +kernel
theorem d_M_undo_25 : decode (ab_bc mt_M_undo) 25 = .ok (.istore_n 1, 1) := by decide +kernel
theorem d_M_undo_26 : decode (ab_bc mt_M_undo) 26 = .ok (.iload_n 1, 1) := by decide +kernel
theorem d_M_undo_27 : decode (ab_bc mt_M_undo) 27 = .ok (.sipush 399, 3) := by decide +kernel
theorem d_M_undo_30 : decode (ab_bc mt_M_undo) 30 = .ok (.if_icmp .ge 30, 3) := by decide +kernel
theorem d_M_undo_33 : decode (ab_bc mt_M_undo) 33 = .ok (.aload_n 0, 1) := by decide +kernel
theorem d_M_undo_34 : decode (ab_bc mt_M_undo) 34 = .ok (.getfield 24, 3) := by decide +kernel
theorem d_M_undo_37 : decode (ab_bc mt_M_undo) 37 = .ok (.iload_n 1, 1) := by decide +kernel
theorem d_M_undo_38 : decode (ab_bc mt_M_undo) 38 = .ok (.aload_n 0, 1) := by decide +kernel
theorem d_M_undo_39 : decode (ab_bc mt_M_undo) 39 = .ok (.getfield 81, 3) := by decide +kernel
theorem d_M_undo_42 : decode (ab_bc mt_M_undo) 42 = .ok (.sipush 399, 3) := by decide +kernel
theorem d_M_undo_45 : decode (ab_bc mt_M_undo) 45 = .ok (.aload_n 0, 1) := by decide +kernel
theorem d_M_undo_46 : decode (ab_bc mt_M_undo) 46 = .ok (.getfield 212, 3) := by decide +kernel
theorem d_M_undo_49 : decode (ab_bc mt_M_undo) 49 = .ok (.imul, 1) := by decide +kernel
theorem d_M_undo_50 : decode (ab_bc mt_M_undo) 50 = .ok (.iload_n 1, 1) := by decide +kernel
theorem d_M_undo_51 : decode (ab_bc mt_M_undo) 51 = .ok (.iadd, 1) := by decide +kernel
theorem d_M_undo_52 : decode (ab_bc mt_M_undo) 52 = .ok (.iaload, 1) := by decide +kernel
theorem d_M_undo_53 : decode (ab_bc mt_M_undo) 53 = .ok (.iastore, 1) := by decide +kernel
theorem d_M_undo_54 : decode (ab_bc mt_M_undo) 54 = .ok (.iinc 1 1, 3) := by decide +kernel
theorem d_M_undo_57 : decode (ab_bc mt_M_undo) 57 = .ok (.goto (-31), 3) := by decide +kernel
theorem d_M_undo_60 : decode (ab_bc mt_M_undo) 60 = .ok (.aload_n 0, 1) := by decide +kernel
theorem d_M_undo_61 : decode (ab_bc mt_M_undo) 61 = .ok (.getfield 212, 3) := by decide +kernel
theorem d_M_undo_64 : decode (ab_bc mt_M_undo) 64 = .ok (.ireturn, 1) := by decide +kernel
-- CableKeeperModel.undo()I over mx
theorem q_M_undo_0 {w : ab_Wd} {d n nc ns : Nat} {I : Nat → Nat → Int32} {L : Nat → Nat → Int64} {res : ab_Re}  (hc : nc ≤ res.2.2.2.2.2.1) (hs : ns ≤ res.2.2.2.2.2.2)
    (h : ((¬ ((ab_up I mx 1 0) mx 41) = 0 → (ab_E w d mt_M_undo 26 [.ref mx, .int 0] [] ((ab_up (ab_up I mx 1 0) mx 41 (((ab_up I mx 1 0) mx 41) - 1)), L, ab_RR, n, nc, ns) res)) ∧ (((ab_up I mx 1 0) mx 41) = 0 → (res = (.inl (some (.int (-1))), ((ab_up I mx 1 0), L, ab_RR, n, nc, ns)))))) : ab_E w d mt_M_undo 0 [.ref mx, .null] [] (I, L, ab_RR, n, nc, ns) res := by
  refine ab_aload_n (i := 0) d_M_undo_0 rfl rfl ?_
  refine ab_iconst (v := 0) d_M_undo_1 rfl ?_
  refine ab_putI (ci := 11) (k := 1) d_M_undo_2 v_1369 rfl (by decide) (by decide) rfl (Or.inl rfl) rfl rfl ?_
  refine ab_aload_n (i := 0) d_M_undo_5 rfl rfl ?_
  refine ab_getI (ci := 11) (k := 41) d_M_undo_6 v_1409 rfl (by decide) (by decide) rfl ?_
  refine ab_if_ne (tgt := 14) d_M_undo_9 (by decide) (fun c1 => ?_) (fun c1 => ?_)
  · have h := h.1 c1
    refine ab_aload_n (i := 0) d_M_undo_14 rfl rfl ?_
    refine ab_dupr d_M_undo_15 ?_
    refine ab_getI (ci := 11) (k := 41) d_M_undo_16 v_1409 rfl (by decide) (by decide) rfl ?_
    refine ab_iconst (v := 1) d_M_undo_19 rfl ?_
    refine ab_isub d_M_undo_20 ?_
    refine ab_putI (ci := 11) (k := 41) d_M_undo_21 v_1409 rfl (by decide) (by decide) rfl (Or.inl rfl) rfl rfl ?_
    refine ab_iconst (v := 0) d_M_undo_24 rfl ?_
    refine ab_istore_n (i := 1) d_M_undo_25 rfl (by decide) (Or.inr rfl) ?_
    exact h
  · have h := h.2 c1
    refine ab_iconst (v := (-1)) d_M_undo_12 rfl ?_
    exact ab_iret (ty := .int) d_M_undo_13 rfl rfl h
theorem q_M_undo_26 {w : ab_Wd} {d n nc ns : Nat} {I : Nat → Nat → Int32} {L : Nat → Nat → Int64} {res : ab_Re} (v1 : Int32) (hc : nc ≤ res.2.2.2.2.2.1) (hs : ns ≤ res.2.2.2.2.2.2)
    (h : ((399 ≤ v1 → (res = (.inl (some (.int (I mx 41))), (I, L, ab_RR, n, nc, ns)))) ∧ (¬ 399 ≤ v1 → ((vp_in ((399 * (I mx 41)) + v1) 15960) ∧ (vp_in v1 399) ∧ ab_E w d mt_M_undo 26 [.ref mx, .int (v1 + 1)] [] ((ab_up I mx_now v1.toNatClampNeg (I mx_past ((399 * (I mx 41)) + v1).toNatClampNeg)), L, ab_RR, n, nc, ns) res)))) : ab_E w d mt_M_undo 26 [.ref mx, .int v1] [] (I, L, ab_RR, n, nc, ns) res := by
  refine ab_iload_n (i := 1) d_M_undo_26 rfl rfl ?_
  refine ab_sipush (v := 399) d_M_undo_27 rfl ?_
  refine ab_icmp_ge (tgt := 60) d_M_undo_30 (by decide) (fun c1 => ?_) (fun c1 => ?_)
  · have h := h.1 c1
    refine ab_aload_n (i := 0) d_M_undo_60 rfl rfl ?_
    refine ab_getI (ci := 11) (k := 41) d_M_undo_61 v_1409 rfl (by decide) (by decide) rfl ?_
    exact ab_iret (ty := .int) d_M_undo_64 rfl rfl h
  · have h := h.2 c1
    refine ab_aload_n (i := 0) d_M_undo_33 rfl rfl ?_
    refine ab_getR (ci := 11) (k := 4) (j := mx_now) d_M_undo_34 v_1372 rfl (by decide) (by decide) rfl r_mx_4 ?_
    refine ab_iload_n (i := 1) d_M_undo_37 rfl rfl ?_
    refine ab_aload_n (i := 0) d_M_undo_38 rfl rfl ?_
    refine ab_getR (ci := 11) (k := 42) (j := mx_past) d_M_undo_39 v_1410 rfl (by decide) (by decide) rfl r_mx_42 ?_
    refine ab_sipush (v := 399) d_M_undo_42 rfl ?_
    refine ab_aload_n (i := 0) d_M_undo_45 rfl rfl ?_
    refine ab_getI (ci := 11) (k := 41) d_M_undo_46 v_1409 rfl (by decide) (by decide) rfl ?_
    refine ab_imul d_M_undo_49 ?_
    refine ab_iload_n (i := 1) d_M_undo_50 rfl rfl ?_
    refine ab_iadd d_M_undo_51 ?_
    have g2 := h.1; have h := h.2
    refine ab_iald d_M_undo_52 rfl rfl g2 ?_
    have g3 := h.1; have h := h.2
    refine ab_iast d_M_undo_53 rfl rfl g3 ?_
    refine ab_iinc (i := 1) (v := (v1 + 1)) d_M_undo_54 rfl rfl (by decide) (Or.inr rfl) ?_
    refine ab_goto (tgt := 26) d_M_undo_57 (by decide) ?_
    exact h
theorem d_M_note_0 : decode (ab_bc mt_M_note) 0 = .ok (.aload_n 0, 1) := by decide +kernel
theorem d_M_note_1 : decode (ab_bc mt_M_note) 1 = .ok (.iconst 0, 1) := by decide +kernel
theorem d_M_note_2 : decode (ab_bc mt_M_note) 2 = .ok (.putfield 108, 3) := by decide +kernel
theorem d_M_note_5 : decode (ab_bc mt_M_note) 5 = .ok (.aload_n 0, 1) := by decide +kernel
theorem d_M_note_6 : decode (ab_bc mt_M_note) 6 = .ok (.getfield 215, 3) := by decide +kernel
theorem d_M_note_9 : decode (ab_bc mt_M_note) 9 = .ok (.bipush 8, 2) := by decide +kernel
theorem d_M_note_11 : decode (ab_bc mt_M_note) 11 = .ok (.if_icmp .eq 11, 3) := by decide +kernel
theorem d_M_note_14 : decode (ab_bc mt_M_note) 14 = .ok (.aload_n 0, 1) := by decide +kernel
theorem d_M_note_15 : decode (ab_bc mt_M_note) 15 = .ok (.iload_n 1, 1) := by decide +kernel
theorem d_M_note_16 : decode (ab_bc mt_M_note) 16 = .ok (.invokevirtual 348, 3) := by decide +kernel
theorem d_M_note_19 : decode (ab_bc mt_M_note) 19 = .ok (.ifCond .ne 9, 3) := by decide +kernel
theorem d_M_note_22 : decode (ab_bc mt_M_note) 22 = .ok (.aload_n 0, 1) := by decide +kernel
theorem d_M_note_23 : decode (ab_bc mt_M_note) 23 = .ok (.iconst 2, 1) := by decide +kernel
theorem d_M_note_24 : decode (ab_bc mt_M_note) 24 = .ok (.invokevirtual 434, 3) := by decide +kernel
theorem d_M_note_27 : decode (ab_bc mt_M_note) 27 = .ok (.ireturn, 1) := by decide +kernel
theorem d_M_note_28 : decode (ab_bc mt_M_note) 28 = .ok (.aload_n 0, 1) := by decide +kernel
theorem d_M_note_29 : decode (ab_bc mt_M_note) 29 = .ok (.getfield 84, 3) := by decide +kernel
theorem d_M_note_32 : decode (ab_bc mt_M_note) 32 = .ok (.aload_n 0, 1) := by decide +kernel
theorem d_M_note_33 : decode (ab_bc mt_M_note) 33 = .ok (.getfield 215, 3) := by decide +kernel
theorem d_M_note_36 : decode (ab_bc mt_M_note) 36 = .ok (.iload_n 1, 1) := by decide +kernel
theorem d_M_note_37 : decode (ab_bc mt_M_note) 37 = .ok (.iastore, 1) := by decide +kernel
theorem d_M_note_38 : decode (ab_bc mt_M_note) 38 = .ok (.aload_n 0, 1) := by decide +kernel
theorem d_M_note_39 : decode (ab_bc mt_M_note) 39 = .ok (.getfield 87, 3) := by decide +kernel
theorem d_M_note_42 : decode (ab_bc mt_M_note) 42 = .ok (.aload_n 0, 1) := by decide +kernel
theorem d_M_note_43 : decode (ab_bc mt_M_note) 43 = .ok (.getfield 215, 3) := by decide +kernel
theorem d_M_note_46 : decode (ab_bc mt_M_note) 46 = .ok (.iload_n 2, 1) := by decide +kernel
theorem d_M_note_47 : decode (ab_bc mt_M_note) 47 = .ok (.ifCond .eq 7, 3) := by decide +kernel
theorem d_M_note_50 : decode (ab_bc mt_M_note) 50 = .ok (.iconst 1, 1) := by decide +kernel
theorem d_M_note_51 : decode (ab_bc mt_M_note) 51 = .ok (.goto 4, 3) := by decide +kernel
theorem d_M_note_54 : decode (ab_bc mt_M_note) 54 = .ok (.iconst 0, 1) := by decide +kernel
theorem d_M_note_55 : decode (ab_bc mt_M_note) 55 = .ok (.iastore, 1) := by decide +kernel
theorem d_M_note_56 : decode (ab_bc mt_M_note) 56 = .ok (.aload_n 0, 1) := by decide +kernel
theorem d_M_note_57 : decode (ab_bc mt_M_note) 57 = .ok (.dup, 1) := by decide +kernel
theorem d_M_note_58 : decode (ab_bc mt_M_note) 58 = .ok (.getfield 215, 3) := by decide +kernel
theorem d_M_note_61 : decode (ab_bc mt_M_note) 61 = .ok (.iconst 1, 1) := by decide +kernel
theorem d_M_note_62 : decode (ab_bc mt_M_note) 62 = .ok (.iadd, 1) := by decide +kernel
theorem d_M_note_63 : decode (ab_bc mt_M_note) 63 = .ok (.putfield 215, 3) := by decide +kernel
theorem d_M_note_66 : decode (ab_bc mt_M_note) 66 = .ok (.aload_n 0, 1) := by decide +kernel
theorem d_M_note_67 : decode (ab_bc mt_M_note) 67 = .ok (.getfield 215, 3) := by decide +kernel
theorem d_M_note_70 : decode (ab_bc mt_M_note) 70 = .ok (.ireturn, 1) := by decide +kernel
-- CableKeeperModel.note(IZ)I over mx
theorem q_M_note_0 {w : ab_Wd} {d n nc ns : Nat} {I : Nat → Nat → Int32} {L : Nat → Nat → Int64} {res : ab_Re} (v1 : Int32) (v2 : Int32) (hc : nc ≤ res.2.2.2.2.2.1) (hs : ns ≤ res.2.2.2.2.2.2)
    (h : ((((ab_up I mx 1 0) mx 43) = 8 → (ab_E w (d + 1) mt_M_note 22 [.ref mx, .int v1, .int v2] [] ((ab_up I mx 1 0), L, ab_RR, n, nc, ns) res)) ∧ (¬ ((ab_up I mx 1 0) mx 43) = 8 → (∃ (r2 : Int32), ab_C w d mt_M_isCable [.ref mx, .int v1] ((ab_up I mx 1 0), L, ab_RR, n, nc, ns) (.inl (some (.int r2)), ((ab_up I mx 1 0), L, ab_RR, n, nc, ns)) ∧ ((¬ r2 = 0 → ((vp_in ((ab_up I mx 1 0) mx 43) 8) ∧ ((v2 = 0 → (ab_E w (d + 1) mt_M_note 55 [.ref mx, .int v1, .int v2] [.int 0, .int ((ab_up (ab_up I mx 1 0) mx_notedCable ((ab_up I mx 1 0) mx 43).toNatClampNeg v1) mx 43), .ref mx_notedIn] ((ab_up (ab_up I mx 1 0) mx_notedCable ((ab_up I mx 1 0) mx 43).toNatClampNeg v1), L, ab_RR, n, nc, ns) res)) ∧ (¬ v2 = 0 → (ab_E w (d + 1) mt_M_note 55 [.ref mx, .int v1, .int v2] [.int 1, .int ((ab_up (ab_up I mx 1 0) mx_notedCable ((ab_up I mx 1 0) mx 43).toNatClampNeg v1) mx 43), .ref mx_notedIn] ((ab_up (ab_up I mx 1 0) mx_notedCable ((ab_up I mx 1 0) mx 43).toNatClampNeg v1), L, ab_RR, n, nc, ns) res))))) ∧ (r2 = 0 → (ab_E w (d + 1) mt_M_note 22 [.ref mx, .int v1, .int v2] [] ((ab_up I mx 1 0), L, ab_RR, n, nc, ns) res))))))) : ab_E w (d + 1) mt_M_note 0 [.ref mx, .int v1, .int v2] [] (I, L, ab_RR, n, nc, ns) res := by
  refine ab_aload_n (i := 0) d_M_note_0 rfl rfl ?_
  refine ab_iconst (v := 0) d_M_note_1 rfl ?_
  refine ab_putI (ci := 11) (k := 1) d_M_note_2 v_1369 rfl (by decide) (by decide) rfl (Or.inl rfl) rfl rfl ?_
  refine ab_aload_n (i := 0) d_M_note_5 rfl rfl ?_
  refine ab_getI (ci := 11) (k := 43) d_M_note_6 v_1411 rfl (by decide) (by decide) rfl ?_
  refine ab_bipush (v := 8) d_M_note_9 rfl ?_
  refine ab_icmp_eq (tgt := 22) d_M_note_11 (by decide) (fun c1 => ?_) (fun c1 => ?_)
  · have h := h.1 c1
    exact h
  · have h := h.2 c1
    refine ab_aload_n (i := 0) d_M_note_14 rfl rfl ?_
    refine ab_iload_n (i := 1) d_M_note_15 rfl rfl ?_
    obtain ⟨r2, hC, h⟩ := h
    refine ab_callV (me2 := mt_M_isCable) (b := mx) (as := [.int v1]) (st := []) (rv := (some (.int r2))) (M2 := ((ab_up I mx 1 0), L, ab_RR, n, nc, ns)) d_M_note_16 ce_M_isCable v_1748 v_1750 v_105 (by decide) rfl (by decide) hC (Nat.le_refl _) (Nat.le_refl _) hc hs (fun j h9 => by cases h9) (fun _ _ => rfl) ?_
    show ab_E w (d + 1) mt_M_note 19 [.ref mx, .int v1, .int v2] [.int r2] ((ab_up I mx 1 0), L, ab_RR, n, nc, ns) res
    refine ab_if_ne (tgt := 28) d_M_note_19 (by decide) (fun c3 => ?_) (fun c3 => ?_)
    · have h := h.1 c3
      refine ab_aload_n (i := 0) d_M_note_28 rfl rfl ?_
      refine ab_getR (ci := 11) (k := 44) (j := mx_notedCable) d_M_note_29 v_1412 rfl (by decide) (by decide) rfl r_mx_44 ?_
      refine ab_aload_n (i := 0) d_M_note_32 rfl rfl ?_
      refine ab_getI (ci := 11) (k := 43) d_M_note_33 v_1411 rfl (by decide) (by decide) rfl ?_
      refine ab_iload_n (i := 1) d_M_note_36 rfl rfl ?_
      have g4 := h.1; have h := h.2
      refine ab_iast d_M_note_37 rfl rfl g4 ?_
      refine ab_aload_n (i := 0) d_M_note_38 rfl rfl ?_
      refine ab_getR (ci := 11) (k := 45) (j := mx_notedIn) d_M_note_39 v_1413 rfl (by decide) (by decide) rfl r_mx_45 ?_
      refine ab_aload_n (i := 0) d_M_note_42 rfl rfl ?_
      refine ab_getI (ci := 11) (k := 43) d_M_note_43 v_1411 rfl (by decide) (by decide) rfl ?_
      refine ab_iload_n (i := 2) d_M_note_46 rfl rfl ?_
      refine ab_if_eq (tgt := 54) d_M_note_47 (by decide) (fun c5 => ?_) (fun c5 => ?_)
      · have h := h.1 c5
        refine ab_iconst (v := 0) d_M_note_54 rfl ?_
        exact h
      · have h := h.2 c5
        refine ab_iconst (v := 1) d_M_note_50 rfl ?_
        refine ab_goto (tgt := 55) d_M_note_51 (by decide) ?_
        exact h
    · have h := h.2 c3
      exact h
theorem q_M_note_22 {w : ab_Wd} {d n nc ns : Nat} {I : Nat → Nat → Int32} {L : Nat → Nat → Int64} {res : ab_Re} (v1 : Int32) (v2 : Int32) (hc : nc ≤ res.2.2.2.2.2.1) (hs : ns ≤ res.2.2.2.2.2.2)
    (h : ∃ (r1 : Int32) (I2 : Nat → Nat → Int32), ab_C w d mt_M_refuse [.ref mx, .int 2] (I, L, ab_RR, n, nc, ns) (.inl (some (.int r1)), (I2, L, ab_RR, n, nc, ns)) ∧ res = (.inl (some (.int r1)), (I2, L, ab_RR, n, nc, ns))) : ab_E w (d + 1) mt_M_note 22 [.ref mx, .int v1, .int v2] [] (I, L, ab_RR, n, nc, ns) res := by
  refine ab_aload_n (i := 0) d_M_note_22 rfl rfl ?_
  refine ab_iconst (v := 2) d_M_note_23 rfl ?_
  obtain ⟨r1, I2, hC, h⟩ := h
  refine ab_callV (me2 := mt_M_refuse) (b := mx) (as := [.int 2]) (st := []) (rv := (some (.int r1))) (M2 := (I2, L, ab_RR, n, nc, ns)) d_M_note_24 ce_M_refuse v_1900 v_1902 v_128 (by decide) rfl (by decide) hC (Nat.le_refl _) (Nat.le_refl _) hc hs (fun j h9 => by cases h9) (fun _ _ => rfl) ?_
  show ab_E w (d + 1) mt_M_note 27 [.ref mx, .int v1, .int v2] [.int r1] (I2, L, ab_RR, n, nc, ns) res
  exact ab_iret (ty := .int) d_M_note_27 rfl rfl h
theorem q_M_note_55 {w : ab_Wd} {d n nc ns : Nat} {I : Nat → Nat → Int32} {L : Nat → Nat → Int64} {res : ab_Re} (v1 : Int32) (v2 : Int32) (s1 : Int32) (s2 : Int32) (hc : nc ≤ res.2.2.2.2.2.1) (hs : ns ≤ res.2.2.2.2.2.2)
    (h : (vp_in s1 8) ∧ res = (.inl (some (.int ((ab_up (ab_up I mx_notedIn s1.toNatClampNeg s2) mx 43 (((ab_up I mx_notedIn s1.toNatClampNeg s2) mx 43) + 1)) mx 43))), ((ab_up (ab_up I mx_notedIn s1.toNatClampNeg s2) mx 43 (((ab_up I mx_notedIn s1.toNatClampNeg s2) mx 43) + 1)), L, ab_RR, n, nc, ns))) : ab_E w (d + 1) mt_M_note 55 [.ref mx, .int v1, .int v2] [.int s2, .int s1, .ref mx_notedIn] (I, L, ab_RR, n, nc, ns) res := by
  have g1 := h.1; have h := h.2
  refine ab_iast d_M_note_55 rfl rfl g1 ?_
  refine ab_aload_n (i := 0) d_M_note_56 rfl rfl ?_
  refine ab_dupr d_M_note_57 ?_
  refine ab_getI (ci := 11) (k := 43) d_M_note_58 v_1411 rfl (by decide) (by decide) rfl ?_
  refine ab_iconst (v := 1) d_M_note_61 rfl ?_
  refine ab_iadd d_M_note_62 ?_
  refine ab_putI (ci := 11) (k := 43) d_M_note_63 v_1411 rfl (by decide) (by decide) rfl (Or.inl rfl) rfl rfl ?_
  refine ab_aload_n (i := 0) d_M_note_66 rfl rfl ?_
  refine ab_getI (ci := 11) (k := 43) d_M_note_67 v_1411 rfl (by decide) (by decide) rfl ?_
  exact ab_iret (ty := .int) d_M_note_70 rfl rfl h
theorem d_M_forget_0 : decode (ab_bc mt_M_forget) 0 = .ok (.aload_n 0, 1) := by decide +kernel
theorem d_M_forget_1 : decode (ab_bc mt_M_forget) 1 = .ok (.iconst 0, 1) := by decide +kernel
theorem d_M_forget_2 : decode (ab_bc mt_M_forget) 2 = .ok (.putfield 108, 3) := by decide +kernel
theorem d_M_forget_5 : decode (ab_bc mt_M_forget) 5 = .ok (.aload_n 0, 1) := by decide +kernel
theorem d_M_forget_6 : decode (ab_bc mt_M_forget) 6 = .ok (.iconst 0, 1) := by decide +kernel
theorem d_M_forget_7 : decode (ab_bc mt_M_forget) 7 = .ok (.putfield 215, 3) := by decide +kernel
theorem d_M_forget_10 : decode (ab_bc mt_M_forget) 10 = .ok (.return_, 1) := by decide +kernel
-- CableKeeperModel.forget()V over mx
theorem q_M_forget_0 {w : ab_Wd} {d n nc ns : Nat} {I : Nat → Nat → Int32} {L : Nat → Nat → Int64} {res : ab_Re}  (hc : nc ≤ res.2.2.2.2.2.1) (hs : ns ≤ res.2.2.2.2.2.2)
    (h : res = (.inl none, ((ab_up (ab_up I mx 1 0) mx 43 0), L, ab_RR, n, nc, ns))) : ab_E w d mt_M_forget 0 [.ref mx] [] (I, L, ab_RR, n, nc, ns) res := by
  refine ab_aload_n (i := 0) d_M_forget_0 rfl rfl ?_
  refine ab_iconst (v := 0) d_M_forget_1 rfl ?_
  refine ab_putI (ci := 11) (k := 1) d_M_forget_2 v_1369 rfl (by decide) (by decide) rfl (Or.inl rfl) rfl rfl ?_
  refine ab_aload_n (i := 0) d_M_forget_5 rfl rfl ?_
  refine ab_iconst (v := 0) d_M_forget_6 rfl ?_
  refine ab_putI (ci := 11) (k := 43) d_M_forget_7 v_1411 rfl (by decide) (by decide) rfl (Or.inl rfl) rfl rfl ?_
  exact ab_vret d_M_forget_10 rfl h
theorem d_M_isAsNoted_0 : decode (ab_bc mt_M_isAsNoted) 0 = .ok (.iconst 1, 1) := by decide +kernel
theorem d_M_isAsNoted_1 : decode (ab_bc mt_M_isAsNoted) 1 = .ok (.istore_n 2, 1) := by decide +kernel
theorem d_M_isAsNoted_2 : decode (ab_bc mt_M_isAsNoted) 2 = .ok (.iconst 0, 1) := by decide +kernel
theorem d_M_isAsNoted_3 : decode (ab_bc mt_M_isAsNoted) 3 = .ok (.istore_n 3, 1) := by decide +kernel
theorem d_M_isAsNoted_4 : decode (ab_bc mt_M_isAsNoted) 4 = .ok (.iload_n 3, 1) := by decide +kernel
theorem d_M_isAsNoted_5 : decode (ab_bc mt_M_isAsNoted) 5 = .ok (.aload_n 0, 1) := by decide +kernel
theorem d_M_isAsNoted_6 : decode (ab_bc mt_M_isAsNoted) 6 = .ok (.getfield 215, 3) := by decide +kernel
theorem d_M_isAsNoted_9 : decode (ab_bc mt_M_isAsNoted) 9 = .ok (.if_icmp .ge 38, 3) := by decide +kernel
theorem d_M_isAsNoted_12 : decode (ab_bc mt_M_isAsNoted) 12 = .ok (.iload_n 2, 1) := by decide +kernel
theorem d_M_isAsNoted_13 : decode (ab_bc mt_M_isAsNoted) 13 = .ok (.ifCond .eq 26, 3) := by decide +kernel
theorem d_M_isAsNoted_16 : decode (ab_bc mt_M_isAsNoted) 16 = .ok (.iload_n 1, 1) := by decide +kernel
theorem d_M_isAsNoted_17 : decode (ab_bc mt_M_isAsNoted) 17 = .ok (.aload_n 0, 1) := by decide +kernel
theorem d_M_isAsNoted_18 : decode (ab_bc mt_M_isAsNoted) 18 = .ok (.getfield 84, 3) := by decide +kernel
theorem d_M_isAsNoted_21 : decode (ab_bc mt_M_isAsNoted) 21 = .ok (.iload_n 3, 1) := by decide +kernel
theorem d_M_isAsNoted_22 : decode (ab_bc mt_M_isAsNoted) 22 = .ok (.iaload, 1) := by decide +kernel
theorem d_M_isAsNoted_23 : decode (ab_bc mt_M_isAsNoted) 23 = .ok (.ishr, 1) := by decide +kernel
theorem d_M_isAsNoted_24 : decode (ab_bc mt_M_isAsNoted) 24 = .ok (.iconst 1, 1) := by decide +kernel
theorem d_M_isAsNoted_25 : decode (ab_bc mt_M_isAsNoted) 25 = .ok (.iand, 1) := by decide +kernel
theorem d_M_isAsNoted_26 : decode (ab_bc mt_M_isAsNoted) 26 = .ok (.aload_n 0, 1) := by decide +kernel
theorem d_M_isAsNoted_27 : decode (ab_bc mt_M_isAsNoted) 27 = .ok (.getfield 87, 3) := by decide +kernel
theorem d_M_isAsNoted_30 : decode (ab_bc mt_M_isAsNoted) 30 = .ok (.iload_n 3, 1) := by decide +kernel
theorem d_M_isAsNoted_31 : decode (ab_bc mt_M_isAsNoted) 31 = .ok (.iaload, 1) := by decide +kernel
theorem d_M_isAsNoted_32 : decode (ab_bc mt_M_isAsNoted) 32 = .ok (.if_icmp .ne 7, 3) := by decide +kernel
theorem d_M_isAsNoted_35 : decode (ab_bc mt_M_isAsNoted) 35 = .ok (.iconst 1, 1) := by decide +kernel
theorem d_M_isAsNoted_36 : decode (ab_bc mt_M_isAsNoted) 36 = .ok (.goto 4, 3) := by decide +kernel
theorem d_M_isAsNoted_39 : decode (ab_bc mt_M_isAsNoted) 39 = .ok (.iconst 0, 1) := by decide +kernel
theorem d_M_isAsNoted_40 : decode (ab_bc mt_M_isAsNoted) 40 = .ok (.istore_n 2, 1) := by decide +kernel
theorem d_M_isAsNoted_41 : decode (ab_bc mt_M_isAsNoted) 41 = .ok (.iinc 3 1, 3) := by decide +kernel
theorem d_M_isAsNoted_44 : decode (ab_bc mt_M_isAsNoted) 44 = .ok (.goto (-40), 3) := by decide +kernel
theorem d_M_isAsNoted_47 : decode (ab_bc mt_M_isAsNoted) 47 = .ok (.iload_n 2, 1) := by decide +kernel
theorem d_M_isAsNoted_48 : decode (ab_bc mt_M_isAsNoted) 48 = .ok (.ireturn, 1) := by decide +kernel
-- CableKeeperModel.isAsNoted(I)Z over mx
theorem q_M_isAsNoted_0 {w : ab_Wd} {d n nc ns : Nat} {I : Nat → Nat → Int32} {L : Nat → Nat → Int64} {res : ab_Re} (v1 : Int32) (hc : nc ≤ res.2.2.2.2.2.1) (hs : ns ≤ res.2.2.2.2.2.2)
    (h : ab_E w d mt_M_isAsNoted 4 [.ref mx, .int v1, .int 1, .int 0] [] (I, L, ab_RR, n, nc, ns) res) : ab_E w d mt_M_isAsNoted 0 [.ref mx, .int v1, .null, .null] [] (I, L, ab_RR, n, nc, ns) res := by
  refine ab_iconst (v := 1) d_M_isAsNoted_0 rfl ?_
  refine ab_istore_n (i := 2) d_M_isAsNoted_1 rfl (by decide) (Or.inr rfl) ?_
  refine ab_iconst (v := 0) d_M_isAsNoted_2 rfl ?_
  refine ab_istore_n (i := 3) d_M_isAsNoted_3 rfl (by decide) (Or.inr rfl) ?_
  exact h
theorem q_M_isAsNoted_4 {w : ab_Wd} {d n nc ns : Nat} {I : Nat → Nat → Int32} {L : Nat → Nat → Int64} {res : ab_Re} (v1 : Int32) (v2 : Int32) (v3 : Int32) (hc : nc ≤ res.2.2.2.2.2.1) (hs : ns ≤ res.2.2.2.2.2.2)
    (h : (((I mx 43) ≤ v3 → ((narrow .boolean (.int v2) = .int v2) ∧ res = (.inl (some (.int v2)), (I, L, ab_RR, n, nc, ns)))) ∧ (¬ (I mx 43) ≤ v3 → ((v2 = 0 → (ab_E w d mt_M_isAsNoted 39 [.ref mx, .int v1, .int v2, .int v3] [] (I, L, ab_RR, n, nc, ns) res)) ∧ (¬ v2 = 0 → ((vp_in v3 8) ∧ (vp_in v3 8) ∧ ((¬ ((v1 >>> ((I mx_notedCable v3.toNatClampNeg) &&& 31)) &&& 1) = (I mx_notedIn v3.toNatClampNeg) → (ab_E w d mt_M_isAsNoted 39 [.ref mx, .int v1, .int v2, .int v3] [] (I, L, ab_RR, n, nc, ns) res)) ∧ (((v1 >>> ((I mx_notedCable v3.toNatClampNeg) &&& 31)) &&& 1) = (I mx_notedIn v3.toNatClampNeg) → (ab_E w d mt_M_isAsNoted 40 [.ref mx, .int v1, .int v2, .int v3] [.int 1] (I, L, ab_RR, n, nc, ns) res))))))))) : ab_E w d mt_M_isAsNoted 4 [.ref mx, .int v1, .int v2, .int v3] [] (I, L, ab_RR, n, nc, ns) res := by
  refine ab_iload_n (i := 3) d_M_isAsNoted_4 rfl rfl ?_
  refine ab_aload_n (i := 0) d_M_isAsNoted_5 rfl rfl ?_
  refine ab_getI (ci := 11) (k := 43) d_M_isAsNoted_6 v_1411 rfl (by decide) (by decide) rfl ?_
  refine ab_icmp_ge (tgt := 47) d_M_isAsNoted_9 (by decide) (fun c1 => ?_) (fun c1 => ?_)
  · have h := h.1 c1
    refine ab_iload_n (i := 2) d_M_isAsNoted_47 rfl rfl ?_
    have g := h.1; have h := h.2
    exact ab_iret (ty := .boolean) d_M_isAsNoted_48 rfl g h
  · have h := h.2 c1
    refine ab_iload_n (i := 2) d_M_isAsNoted_12 rfl rfl ?_
    refine ab_if_eq (tgt := 39) d_M_isAsNoted_13 (by decide) (fun c2 => ?_) (fun c2 => ?_)
    · have h := h.1 c2
      exact h
    · have h := h.2 c2
      refine ab_iload_n (i := 1) d_M_isAsNoted_16 rfl rfl ?_
      refine ab_aload_n (i := 0) d_M_isAsNoted_17 rfl rfl ?_
      refine ab_getR (ci := 11) (k := 44) (j := mx_notedCable) d_M_isAsNoted_18 v_1412 rfl (by decide) (by decide) rfl r_mx_44 ?_
      refine ab_iload_n (i := 3) d_M_isAsNoted_21 rfl rfl ?_
      have g3 := h.1; have h := h.2
      refine ab_iald d_M_isAsNoted_22 rfl rfl g3 ?_
      refine ab_ishr d_M_isAsNoted_23 ?_
      refine ab_iconst (v := 1) d_M_isAsNoted_24 rfl ?_
      refine ab_iand d_M_isAsNoted_25 ?_
      refine ab_aload_n (i := 0) d_M_isAsNoted_26 rfl rfl ?_
      refine ab_getR (ci := 11) (k := 45) (j := mx_notedIn) d_M_isAsNoted_27 v_1413 rfl (by decide) (by decide) rfl r_mx_45 ?_
      refine ab_iload_n (i := 3) d_M_isAsNoted_30 rfl rfl ?_
      have g4 := h.1; have h := h.2
      refine ab_iald d_M_isAsNoted_31 rfl rfl g4 ?_
      refine ab_icmp_ne (tgt := 39) d_M_isAsNoted_32 (by decide) (fun c5 => ?_) (fun c5 => ?_)
      · have h := h.1 c5
        exact h
      · have h := h.2 c5
        refine ab_iconst (v := 1) d_M_isAsNoted_35 rfl ?_
        refine ab_goto (tgt := 40) d_M_isAsNoted_36 (by decide) ?_
        exact h
theorem q_M_isAsNoted_39 {w : ab_Wd} {d n nc ns : Nat} {I : Nat → Nat → Int32} {L : Nat → Nat → Int64} {res : ab_Re} (v1 : Int32) (v2 : Int32) (v3 : Int32) (hc : nc ≤ res.2.2.2.2.2.1) (hs : ns ≤ res.2.2.2.2.2.2)
    (h : ab_E w d mt_M_isAsNoted 40 [.ref mx, .int v1, .int v2, .int v3] [.int 0] (I, L, ab_RR, n, nc, ns) res) : ab_E w d mt_M_isAsNoted 39 [.ref mx, .int v1, .int v2, .int v3] [] (I, L, ab_RR, n, nc, ns) res := by
  refine ab_iconst (v := 0) d_M_isAsNoted_39 rfl ?_
  exact h
theorem q_M_isAsNoted_40 {w : ab_Wd} {d n nc ns : Nat} {I : Nat → Nat → Int32} {L : Nat → Nat → Int64} {res : ab_Re} (v1 : Int32) (v2 : Int32) (v3 : Int32) (s0 : Int32) (hc : nc ≤ res.2.2.2.2.2.1) (hs : ns ≤ res.2.2.2.2.2.2)
    (h : ab_E w d mt_M_isAsNoted 4 [.ref mx, .int v1, .int s0, .int (v3 + 1)] [] (I, L, ab_RR, n, nc, ns) res) : ab_E w d mt_M_isAsNoted 40 [.ref mx, .int v1, .int v2, .int v3] [.int s0] (I, L, ab_RR, n, nc, ns) res := by
  refine ab_istore_n (i := 2) d_M_isAsNoted_40 rfl (by decide) (Or.inr rfl) ?_
  refine ab_iinc (i := 3) (v := (v3 + 1)) d_M_isAsNoted_41 rfl rfl (by decide) (Or.inr rfl) ?_
  refine ab_goto (tgt := 4) d_M_isAsNoted_44 (by decide) ?_
  exact h
