theorem d_M_tellJoints_0 : decode (ab_bc mt_M_tellJoints) 0 = .ok (.iconst 1, 1) := by decide +kernel
theorem d_M_tellJoints_1 : decode (ab_bc mt_M_tellJoints) 1 = .ok (.istore_n 2, 1) := by decide +kernel
theorem d_M_tellJoints_2 : decode (ab_bc mt_M_tellJoints) 2 = .ok (.iload_n 2, 1) := by decide +kernel
theorem d_M_tellJoints_3 : decode (ab_bc mt_M_tellJoints) 3 = .ok (.iload_n 1, 1) := by decide +kernel
theorem d_M_tellJoints_4 : decode (ab_bc mt_M_tellJoints) 4 = .ok (.if_icmp .gt 172, 3) := by decide +kernel
theorem d_M_tellJoints_7 : decode (ab_bc mt_M_tellJoints) 7 = .ok (.iload_n 2, 1) := by decide +kernel
theorem d_M_tellJoints_8 : decode (ab_bc mt_M_tellJoints) 8 = .ok (.iload_n 1, 1) := by decide +kernel
theorem d_M_tellJoints_9 : decode (ab_bc mt_M_tellJoints) 9 = .ok (.iconst (-1), 1) := by decide +kernel
theorem d_M_tellJoints_10 : decode (ab_bc mt_M_tellJoints) 10 = .ok (.ixor, 1) := by decide +kernel
theorem d_M_tellJoints_11 : decode (ab_bc mt_M_tellJoints) 11 = .ok (.iand, 1) := by decide +kernel
theorem d_M_tellJoints_12 : decode (ab_bc mt_M_tellJoints) 12 = .ok (.ifCond .eq 6, 3) := by decide +kernel
theorem d_M_tellJoints_15 : decode (ab_bc mt_M_tellJoints) 15 = .ok (.goto 155, 3) := by decide +kernel
theorem d_M_tellJoints_18 : decode (ab_bc mt_M_tellJoints) 18 = .ok (.iload_n 2, 1) := by decide +kernel
theorem d_M_tellJoints_19 : decode (ab_bc mt_M_tellJoints) 19 = .ok (.invokestatic 425, 3) := by decide +kernel
theorem d_M_tellJoints_22 : decode (ab_bc mt_M_tellJoints) 22 = .ok (.iconst 1, 1) := by decide +kernel
theorem d_M_tellJoints_23 : decode (ab_bc mt_M_tellJoints) 23 = .ok (.if_icmp .ne 7, 3) := by decide +kernel
theorem d_M_tellJoints_26 : decode (ab_bc mt_M_tellJoints) 26 = .ok (.iconst 1, 1) := by decide +kernel
theorem d_M_tellJoints_27 : decode (ab_bc mt_M_tellJoints) 27 = .ok (.goto 4, 3) := by decide +kernel
theorem d_M_tellJoints_30 : decode (ab_bc mt_M_tellJoints) 30 = .ok (.iconst 0, 1) := by decide +kernel
theorem d_M_tellJoints_31 : decode (ab_bc mt_M_tellJoints) 31 = .ok (.istore_n 3, 1) := by decide +kernel
theorem d_M_tellJoints_32 : decode (ab_bc mt_M_tellJoints) 32 = .ok (.iconst 0, 1) := by decide +kernel
theorem d_M_tellJoints_33 : decode (ab_bc mt_M_tellJoints) 33 = .ok (.istore 4, 2) := by decide +kernel
theorem d_M_tellJoints_35 : decode (ab_bc mt_M_tellJoints) 35 = .ok (.iload 4, 2) := by decide +kernel
theorem d_M_tellJoints_37 : decode (ab_bc mt_M_tellJoints) 37 = .ok (.aload_n 0, 1) := by decide +kernel
theorem d_M_tellJoints_38 : decode (ab_bc mt_M_tellJoints) 38 = .ok (.getfield 21, 3) := by decide +kernel
theorem d_M_tellJoints_41 : decode (ab_bc mt_M_tellJoints) 41 = .ok (.if_icmp .ge 41, 3) := by decide +kernel
theorem d_M_tellJoints_44 : decode (ab_bc mt_M_tellJoints) 44 = .ok (.aload_n 0, 1) := by decide +kernel
theorem d_M_tellJoints_45 : decode (ab_bc mt_M_tellJoints) 45 = .ok (.getfield 78, 3) := by decide +kernel
theorem d_M_tellJoints_48 : decode (ab_bc mt_M_tellJoints) 48 = .ok (.bipush 10, 2) := by decide +kernel
theorem d_M_tellJoints_50 : decode (ab_bc mt_M_tellJoints) 50 = .ok (.iload_n 2, 1) := by decide +kernel
theorem d_M_tellJoints_51 : decode (ab_bc mt_M_tellJoints) 51 = .ok (.imul, 1) := by decide +kernel
theorem d_M_tellJoints_52 : decode (ab_bc mt_M_tellJoints) 52 = .ok (.iload 4, 2) := by decide +kernel
theorem d_M_tellJoints_54 : decode (ab_bc mt_M_tellJoints) 54 = .ok (.iadd, 1) := by decide +kernel
theorem d_M_tellJoints_55 : decode (ab_bc mt_M_tellJoints) 55 = .ok (.iload_n 3, 1) := by decide +kernel
theorem d_M_tellJoints_56 : decode (ab_bc mt_M_tellJoints) 56 = .ok (.ifCond .eq 16, 3) := by decide +kernel
theorem d_M_tellJoints_59 : decode (ab_bc mt_M_tellJoints) 59 = .ok (.iload_n 2, 1) := by decide +kernel
theorem d_M_tellJoints_60 : decode (ab_bc mt_M_tellJoints) 60 = .ok (.iload 4, 2) := by decide +kernel
theorem d_M_tellJoints_62 : decode (ab_bc mt_M_tellJoints) 62 = .ok (.invokestatic 237, 3) := by decide +kernel
theorem d_M_tellJoints_65 : decode (ab_bc mt_M_tellJoints) 65 = .ok (.ifCond .eq 7, 3) := by decide +kernel
theorem d_M_tellJoints_68 : decode (ab_bc mt_M_tellJoints) 68 = .ok (.iconst 0, 1) := by decide +kernel
theorem d_M_tellJoints_69 : decode (ab_bc mt_M_tellJoints) 69 = .ok (.goto 6, 3) := by decide +kernel
theorem d_M_tellJoints_72 : decode (ab_bc mt_M_tellJoints) 72 = .ok (.ldc_w 330, 3) := by decide +kernel
theorem d_M_tellJoints_75 : decode (ab_bc mt_M_tellJoints) 75 = .ok (.iastore, 1) := by decide +kernel
theorem d_M_tellJoints_76 : decode (ab_bc mt_M_tellJoints) 76 = .ok (.iinc 4 1, 3) := by decide +kernel
theorem d_M_tellJoints_79 : decode (ab_bc mt_M_tellJoints) 79 = .ok (.goto (-44), 3) := by decide +kernel
theorem d_M_tellJoints_82 : decode (ab_bc mt_M_tellJoints) 82 = .ok (.iload_n 2, 1) := by decide +kernel
theorem d_M_tellJoints_83 : decode (ab_bc mt_M_tellJoints) 83 = .ok (.iconst 1, 1) := by decide +kernel
theorem d_M_tellJoints_84 : decode (ab_bc mt_M_tellJoints) 84 = .ok (.isub, 1) := by decide +kernel
theorem d_M_tellJoints_85 : decode (ab_bc mt_M_tellJoints) 85 = .ok (.iload_n 2, 1) := by decide +kernel
theorem d_M_tellJoints_86 : decode (ab_bc mt_M_tellJoints) 86 = .ok (.iand, 1) := by decide +kernel
theorem d_M_tellJoints_87 : decode (ab_bc mt_M_tellJoints) 87 = .ok (.istore 4, 2) := by decide +kernel
theorem d_M_tellJoints_89 : decode (ab_bc mt_M_tellJoints) 89 = .ok (.iload 4, 2) := by decide +kernel
theorem d_M_tellJoints_91 : decode (ab_bc mt_M_tellJoints) 91 = .ok (.ifCond .le 74, 3) := by decide +kernel
theorem d_M_tellJoints_94 : decode (ab_bc mt_M_tellJoints) 94 = .ok (.iconst 0, 1) := by decide +kernel
theorem d_M_tellJoints_95 : decode (ab_bc mt_M_tellJoints) 95 = .ok (.istore 5, 2) := by decide +kernel
theorem d_M_tellJoints_97 : decode (ab_bc mt_M_tellJoints) 97 = .ok (.iload 5, 2) := by decide +kernel
theorem d_M_tellJoints_99 : decode (ab_bc mt_M_tellJoints) 99 = .ok (.aload_n 0, 1) := by decide +kernel
theorem d_M_tellJoints_100 : decode (ab_bc mt_M_tellJoints) 100 = .ok (.getfield 21, 3) := by decide +kernel
theorem d_M_tellJoints_103 : decode (ab_bc mt_M_tellJoints) 103 = .ok (.if_icmp .ge 51, 3) := by decide +kernel
theorem d_M_tellJoints_106 : decode (ab_bc mt_M_tellJoints) 106 = .ok (.aload_n 0, 1) := by decide +kernel
theorem d_M_tellJoints_107 : decode (ab_bc mt_M_tellJoints) 107 = .ok (.bipush 10, 2) := by decide +kernel
theorem d_M_tellJoints_109 : decode (ab_bc mt_M_tellJoints) 109 = .ok (.iload_n 2, 1) := by decide +kernel
theorem d_M_tellJoints_110 : decode (ab_bc mt_M_tellJoints) 110 = .ok (.imul, 1) := by decide +kernel
theorem d_M_tellJoints_111 : decode (ab_bc mt_M_tellJoints) 111 = .ok (.iload 5, 2) := by decide +kernel
theorem d_M_tellJoints_113 : decode (ab_bc mt_M_tellJoints) 113 = .ok (.iadd, 1) := by decide +kernel
theorem d_M_tellJoints_114 : decode (ab_bc mt_M_tellJoints) 114 = .ok (.aload_n 0, 1) := by decide +kernel
theorem d_M_tellJoints_115 : decode (ab_bc mt_M_tellJoints) 115 = .ok (.getfield 78, 3) := by decide +kernel
theorem d_M_tellJoints_118 : decode (ab_bc mt_M_tellJoints) 118 = .ok (.bipush 10, 2) := by decide +kernel
theorem d_M_tellJoints_120 : decode (ab_bc mt_M_tellJoints) 120 = .ok (.iload 4, 2) := by decide +kernel
theorem d_M_tellJoints_122 : decode (ab_bc mt_M_tellJoints) 122 = .ok (.imul, 1) := by decide +kernel
theorem d_M_tellJoints_123 : decode (ab_bc mt_M_tellJoints) 123 = .ok (.iload 5, 2) := by decide +kernel
theorem d_M_tellJoints_125 : decode (ab_bc mt_M_tellJoints) 125 = .ok (.iadd, 1) := by decide +kernel
theorem d_M_tellJoints_126 : decode (ab_bc mt_M_tellJoints) 126 = .ok (.iaload, 1) := by decide +kernel
theorem d_M_tellJoints_127 : decode (ab_bc mt_M_tellJoints) 127 = .ok (.aload_n 0, 1) := by decide +kernel
theorem d_M_tellJoints_128 : decode (ab_bc mt_M_tellJoints) 128 = .ok (.getfield 78, 3) := by decide +kernel
theorem d_M_tellJoints_131 : decode (ab_bc mt_M_tellJoints) 131 = .ok (.bipush 10, 2) := by decide +kernel
theorem d_M_tellJoints_133 : decode (ab_bc mt_M_tellJoints) 133 = .ok (.iload_n 2, 1) := by decide +kernel
theorem d_M_tellJoints_134 : decode (ab_bc mt_M_tellJoints) 134 = .ok (.iload 4, 2) := by decide +kernel
theorem d_M_tellJoints_136 : decode (ab_bc mt_M_tellJoints) 136 = .ok (.ixor, 1) := by decide +kernel
theorem d_M_tellJoints_137 : decode (ab_bc mt_M_tellJoints) 137 = .ok (.imul, 1) := by decide +kernel
theorem d_M_tellJoints_138 : decode (ab_bc mt_M_tellJoints) 138 = .ok (.iload 5, 2) := by decide +kernel
theorem d_M_tellJoints_140 : decode (ab_bc mt_M_tellJoints) 140 = .ok (.iadd, 1) := by decide +kernel
theorem d_M_tellJoints_141 : decode (ab_bc mt_M_tellJoints) 141 = .ok (.iaload, 1) := by decide +kernel
theorem d_M_tellJoints_142 : decode (ab_bc mt_M_tellJoints) 142 = .ok (.iadd, 1) := by decide +kernel
theorem d_M_tellJoints_143 : decode (ab_bc mt_M_tellJoints) 143 = .ok (.invokevirtual 422, 3) := by decide +kernel
theorem d_M_tellJoints_146 : decode (ab_bc mt_M_tellJoints) 146 = .ok (.istore 6, 2) := by decide +kernel
theorem d_M_tellJoints_148 : decode (ab_bc mt_M_tellJoints) 148 = .ok (.iinc 5 1, 3) := by decide +kernel
theorem d_M_tellJoints_151 : decode (ab_bc mt_M_tellJoints) 151 = .ok (.goto (-54), 3) := by decide +kernel
theorem d_M_tellJoints_154 : decode (ab_bc mt_M_tellJoints) 154 = .ok (.iload 4, 2) := by decide +kernel
theorem d_M_tellJoints_156 : decode (ab_bc mt_M_tellJoints) 156 = .ok (.iconst 1, 1) := by decide +kernel
theorem d_M_tellJoints_157 : decode (ab_bc mt_M_tellJoints) 157 = .ok (.isub, 1) := by decide +kernel
theorem d_M_tellJoints_158 : decode (ab_bc mt_M_tellJoints) 158 = .ok (.iload_n 2, 1) := by decide +kernel
theorem d_M_tellJoints_159 : decode (ab_bc mt_M_tellJoints) 159 = .ok (.iand, 1) := by decide +kernel
theorem d_M_tellJoints_160 : decode (ab_bc mt_M_tellJoints) 160 = .ok (.istore 4, 2) := by decide +kernel
theorem d_M_tellJoints_162 : decode (ab_bc mt_M_tellJoints) 162 = .ok (.goto (-73), 3) := by decide +kernel
theorem d_M_tellJoints_165 : decode (ab_bc mt_M_tellJoints) 165 = .ok (.aload_n 0, 1) := by decide +kernel
theorem d_M_tellJoints_166 : decode (ab_bc mt_M_tellJoints) 166 = .ok (.iload_n 2, 1) := by decide +kernel
theorem d_M_tellJoints_167 : decode (ab_bc mt_M_tellJoints) 167 = .ok (.invokevirtual 428, 3) := by decide +kernel
theorem d_M_tellJoints_170 : decode (ab_bc mt_M_tellJoints) 170 = .ok (.iinc 2 1, 3) := by decide +kernel
theorem d_M_tellJoints_173 : decode (ab_bc mt_M_tellJoints) 173 = .ok (.goto (-171), 3) := by decide +kernel
theorem d_M_tellJoints_176 : decode (ab_bc mt_M_tellJoints) 176 = .ok (.return_, 1) := by decide +kernel
-- CableKeeperModel.tellJoints(I)V over mx
theorem q_M_tellJoints_0 {w : ab_Wd} {d n nc ns : Nat} {I : Nat → Nat → Int32} {L : Nat → Nat → Int64} {res : ab_Re} (v1 : Int32) (hc : nc ≤ res.2.2.2.2.2.1) (hs : ns ≤ res.2.2.2.2.2.2)
    (h : ab_E w (d + 1) mt_M_tellJoints 2 [.ref mx, .int v1, .int 1, .null, .null, .null, .null] [] (I, L, ab_RR, n, nc, ns) res) : ab_E w (d + 1) mt_M_tellJoints 0 [.ref mx, .int v1, .null, .null, .null, .null, .null] [] (I, L, ab_RR, n, nc, ns) res := by
  refine ab_iconst (v := 1) d_M_tellJoints_0 rfl ?_
  refine ab_istore_n (i := 2) d_M_tellJoints_1 rfl (by decide) (Or.inr rfl) ?_
  exact h
theorem q_M_tellJoints_2 {w : ab_Wd} {d n nc ns : Nat} {I : Nat → Nat → Int32} {L : Nat → Nat → Int64} {res : ab_Re} (v1 : Int32) (v2 : Int32) (hc : nc ≤ res.2.2.2.2.2.1) (hs : ns ≤ res.2.2.2.2.2.2)
    (h : ((v1 < v2 → (res = (.inl none, (I, L, ab_RR, n, nc, ns)))) ∧ (¬ v1 < v2 → (((v2 &&& (v1 ^^^ (-1))) = 0 → (∃ (r3 : Int32), ab_C w d mt_Integer_bitCount [.int v2] (I, L, ab_RR, n, nc, ns) (.inl (some (.int r3)), (I, L, ab_RR, n, nc, ns)) ∧ ((¬ r3 = 1 → (ab_E w (d + 1) mt_M_tellJoints 31 [.ref mx, .int v1, .int v2, .null, .null, .null, .null] [.int 0] (I, L, ab_RR, n, nc, ns) res)) ∧ (r3 = 1 → (ab_E w (d + 1) mt_M_tellJoints 31 [.ref mx, .int v1, .int v2, .null, .null, .null, .null] [.int 1] (I, L, ab_RR, n, nc, ns) res))))) ∧ (¬ (v2 &&& (v1 ^^^ (-1))) = 0 → (ab_E w (d + 1) mt_M_tellJoints 170 [.ref mx, .int v1, .int v2, .null, .null, .null, .null] [] (I, L, ab_RR, n, nc, ns) res)))))) : ab_E w (d + 1) mt_M_tellJoints 2 [.ref mx, .int v1, .int v2, .null, .null, .null, .null] [] (I, L, ab_RR, n, nc, ns) res := by
  refine ab_iload_n (i := 2) d_M_tellJoints_2 rfl rfl ?_
  refine ab_iload_n (i := 1) d_M_tellJoints_3 rfl rfl ?_
  refine ab_icmp_gt (tgt := 176) d_M_tellJoints_4 (by decide) (fun c1 => ?_) (fun c1 => ?_)
  · have h := h.1 c1
    exact ab_vret d_M_tellJoints_176 rfl h
  · have h := h.2 c1
    refine ab_iload_n (i := 2) d_M_tellJoints_7 rfl rfl ?_
    refine ab_iload_n (i := 1) d_M_tellJoints_8 rfl rfl ?_
    refine ab_iconst (v := (-1)) d_M_tellJoints_9 rfl ?_
    refine ab_ixor d_M_tellJoints_10 ?_
    refine ab_iand d_M_tellJoints_11 ?_
    refine ab_if_eq (tgt := 18) d_M_tellJoints_12 (by decide) (fun c2 => ?_) (fun c2 => ?_)
    · have h := h.1 c2
      refine ab_iload_n (i := 2) d_M_tellJoints_18 rfl rfl ?_
      obtain ⟨r3, hC, h⟩ := h
      refine ab_callS (me2 := mt_Integer_bitCount) (as := [.int v2]) (st := []) (rv := (some (.int r3))) (M2 := (I, L, ab_RR, n, nc, ns)) d_M_tellJoints_19 ce_Integer_bitCount ⟨v_965, Or.inl v_1879⟩ (by decide) hC (Nat.le_refl _) (Nat.le_refl _) hc hs (fun j h9 => by cases h9) (fun _ _ => rfl) ?_
      show ab_E w (d + 1) mt_M_tellJoints 22 [.ref mx, .int v1, .int v2, .null, .null, .null, .null] [.int r3] (I, L, ab_RR, n, nc, ns) res
      refine ab_iconst (v := 1) d_M_tellJoints_22 rfl ?_
      refine ab_icmp_ne (tgt := 30) d_M_tellJoints_23 (by decide) (fun c4 => ?_) (fun c4 => ?_)
      · have h := h.1 c4
        refine ab_iconst (v := 0) d_M_tellJoints_30 rfl ?_
        exact h
      · have h := h.2 c4
        refine ab_iconst (v := 1) d_M_tellJoints_26 rfl ?_
        refine ab_goto (tgt := 31) d_M_tellJoints_27 (by decide) ?_
        exact h
    · have h := h.2 c2
      refine ab_goto (tgt := 170) d_M_tellJoints_15 (by decide) ?_
      exact h
theorem q_M_tellJoints_31 {w : ab_Wd} {d n nc ns : Nat} {I : Nat → Nat → Int32} {L : Nat → Nat → Int64} {res : ab_Re} (v1 : Int32) (v2 : Int32) (s0 : Int32) (hc : nc ≤ res.2.2.2.2.2.1) (hs : ns ≤ res.2.2.2.2.2.2)
    (h : ab_E w (d + 1) mt_M_tellJoints 35 [.ref mx, .int v1, .int v2, .int s0, .int 0, .null, .null] [] (I, L, ab_RR, n, nc, ns) res) : ab_E w (d + 1) mt_M_tellJoints 31 [.ref mx, .int v1, .int v2, .null, .null, .null, .null] [.int s0] (I, L, ab_RR, n, nc, ns) res := by
  refine ab_istore_n (i := 3) d_M_tellJoints_31 rfl (by decide) (Or.inr rfl) ?_
  refine ab_iconst (v := 0) d_M_tellJoints_32 rfl ?_
  refine ab_istore (i := 4) d_M_tellJoints_33 (by decide) (Or.inr rfl) ?_
  exact h
theorem q_M_tellJoints_35 {w : ab_Wd} {d n nc ns : Nat} {I : Nat → Nat → Int32} {L : Nat → Nat → Int64} {res : ab_Re} (v1 : Int32) (v2 : Int32) (v3 : Int32) (v4 : Int32) (hc : nc ≤ res.2.2.2.2.2.1) (hs : ns ≤ res.2.2.2.2.2.2)
    (h : (((I mx 2) ≤ v4 → (ab_E w (d + 1) mt_M_tellJoints 89 [.ref mx, .int v1, .int v2, .int v3, .int ((v2 - 1) &&& v2), .null, .null] [] (I, L, ab_RR, n, nc, ns) res)) ∧ (¬ (I mx 2) ≤ v4 → ((v3 = 0 → (ab_E w (d + 1) mt_M_tellJoints 72 [.ref mx, .int v1, .int v2, .int v3, .int v4, .null, .null] [.int ((10 * v2) + v4), .ref mx_joint] (I, L, ab_RR, n, nc, ns) res)) ∧ (¬ v3 = 0 → (∃ (r3 : Int32), ab_C w d mt_M_has [.int v2, .int v4] (I, L, ab_RR, n, nc, ns) (.inl (some (.int r3)), (I, L, ab_RR, n, nc, ns)) ∧ ((r3 = 0 → (ab_E w (d + 1) mt_M_tellJoints 72 [.ref mx, .int v1, .int v2, .int v3, .int v4, .null, .null] [.int ((10 * v2) + v4), .ref mx_joint] (I, L, ab_RR, n, nc, ns) res)) ∧ (¬ r3 = 0 → (ab_E w (d + 1) mt_M_tellJoints 75 [.ref mx, .int v1, .int v2, .int v3, .int v4, .null, .null] [.int 0, .int ((10 * v2) + v4), .ref mx_joint] (I, L, ab_RR, n, nc, ns) res))))))))) : ab_E w (d + 1) mt_M_tellJoints 35 [.ref mx, .int v1, .int v2, .int v3, .int v4, .null, .null] [] (I, L, ab_RR, n, nc, ns) res := by
  refine ab_iload (i := 4) d_M_tellJoints_35 rfl ?_
  refine ab_aload_n (i := 0) d_M_tellJoints_37 rfl rfl ?_
  refine ab_getI (ci := 11) (k := 2) d_M_tellJoints_38 v_1370 rfl (by decide) (by decide) rfl ?_
  refine ab_icmp_ge (tgt := 82) d_M_tellJoints_41 (by decide) (fun c1 => ?_) (fun c1 => ?_)
  · have h := h.1 c1
    refine ab_iload_n (i := 2) d_M_tellJoints_82 rfl rfl ?_
    refine ab_iconst (v := 1) d_M_tellJoints_83 rfl ?_
    refine ab_isub d_M_tellJoints_84 ?_
    refine ab_iload_n (i := 2) d_M_tellJoints_85 rfl rfl ?_
    refine ab_iand d_M_tellJoints_86 ?_
    refine ab_istore (i := 4) d_M_tellJoints_87 (by decide) (Or.inr rfl) ?_
    exact h
  · have h := h.2 c1
    refine ab_aload_n (i := 0) d_M_tellJoints_44 rfl rfl ?_
    refine ab_getR (ci := 11) (k := 40) (j := mx_joint) d_M_tellJoints_45 v_1408 rfl (by decide) (by decide) rfl r_mx_40 ?_
    refine ab_bipush (v := 10) d_M_tellJoints_48 rfl ?_
    refine ab_iload_n (i := 2) d_M_tellJoints_50 rfl rfl ?_
    refine ab_imul d_M_tellJoints_51 ?_
    refine ab_iload (i := 4) d_M_tellJoints_52 rfl ?_
    refine ab_iadd d_M_tellJoints_54 ?_
    refine ab_iload_n (i := 3) d_M_tellJoints_55 rfl rfl ?_
    refine ab_if_eq (tgt := 72) d_M_tellJoints_56 (by decide) (fun c2 => ?_) (fun c2 => ?_)
    · have h := h.1 c2
      exact h
    · have h := h.2 c2
      refine ab_iload_n (i := 2) d_M_tellJoints_59 rfl rfl ?_
      refine ab_iload (i := 4) d_M_tellJoints_60 rfl ?_
      obtain ⟨r3, hC, h⟩ := h
      refine ab_callS (me2 := mt_M_has) (as := [.int v2, .int v4]) (st := [.int ((10 * v2) + v4), .ref mx_joint]) (rv := (some (.int r3))) (M2 := (I, L, ab_RR, n, nc, ns)) d_M_tellJoints_62 ce_M_has ⟨v_1648, Or.inl v_1647⟩ (by decide) hC (Nat.le_refl _) (Nat.le_refl _) hc hs (fun j h9 => by cases h9) (fun _ _ => rfl) ?_
      show ab_E w (d + 1) mt_M_tellJoints 65 [.ref mx, .int v1, .int v2, .int v3, .int v4, .null, .null] [.int r3, .int ((10 * v2) + v4), .ref mx_joint] (I, L, ab_RR, n, nc, ns) res
      refine ab_if_eq (tgt := 72) d_M_tellJoints_65 (by decide) (fun c4 => ?_) (fun c4 => ?_)
      · have h := h.1 c4
        exact h
      · have h := h.2 c4
        refine ab_iconst (v := 0) d_M_tellJoints_68 rfl ?_
        refine ab_goto (tgt := 75) d_M_tellJoints_69 (by decide) ?_
        exact h
theorem q_M_tellJoints_72 {w : ab_Wd} {d n nc ns : Nat} {I : Nat → Nat → Int32} {L : Nat → Nat → Int64} {res : ab_Re} (v1 : Int32) (v2 : Int32) (v3 : Int32) (v4 : Int32) (s1 : Int32) (hc : nc ≤ res.2.2.2.2.2.1) (hs : ns ≤ res.2.2.2.2.2.2)
    (h : ab_E w (d + 1) mt_M_tellJoints 75 [.ref mx, .int v1, .int v2, .int v3, .int v4, .null, .null] [.int 1000000, .int s1, .ref mx_joint] (I, L, ab_RR, n, nc, ns) res) : ab_E w (d + 1) mt_M_tellJoints 72 [.ref mx, .int v1, .int v2, .int v3, .int v4, .null, .null] [.int s1, .ref mx_joint] (I, L, ab_RR, n, nc, ns) res := by
  refine ab_ldcw (v := 1000000) d_M_tellJoints_72 v_1743 ?_
  exact h
theorem q_M_tellJoints_75 {w : ab_Wd} {d n nc ns : Nat} {I : Nat → Nat → Int32} {L : Nat → Nat → Int64} {res : ab_Re} (v1 : Int32) (v2 : Int32) (v3 : Int32) (v4 : Int32) (s1 : Int32) (s2 : Int32) (hc : nc ≤ res.2.2.2.2.2.1) (hs : ns ≤ res.2.2.2.2.2.2)
    (h : (vp_in s1 10240) ∧ ab_E w (d + 1) mt_M_tellJoints 35 [.ref mx, .int v1, .int v2, .int v3, .int (v4 + 1), .null, .null] [] ((ab_up I mx_joint s1.toNatClampNeg s2), L, ab_RR, n, nc, ns) res) : ab_E w (d + 1) mt_M_tellJoints 75 [.ref mx, .int v1, .int v2, .int v3, .int v4, .null, .null] [.int s2, .int s1, .ref mx_joint] (I, L, ab_RR, n, nc, ns) res := by
  have g1 := h.1; have h := h.2
  refine ab_iast d_M_tellJoints_75 rfl rfl g1 ?_
  refine ab_iinc (i := 4) (v := (v4 + 1)) d_M_tellJoints_76 rfl rfl (by decide) (Or.inr rfl) ?_
  refine ab_goto (tgt := 35) d_M_tellJoints_79 (by decide) ?_
  exact h
theorem q_M_tellJoints_89 {w : ab_Wd} {d n nc ns : Nat} {I : Nat → Nat → Int32} {L : Nat → Nat → Int64} {res : ab_Re} (v1 : Int32) (v2 : Int32) (v3 : Int32) (v4 : Int32) (hc : nc ≤ res.2.2.2.2.2.1) (hs : ns ≤ res.2.2.2.2.2.2)
    (h : ((v4 ≤ 0 → (∃ (I3 : Nat → Nat → Int32), ab_C w d mt_M_spreads [.ref mx, .int v2] (I, L, ab_RR, n, nc, ns) (.inl none, (I3, L, ab_RR, n, nc, ns)) ∧ ab_E w (d + 1) mt_M_tellJoints 170 [.ref mx, .int v1, .int v2, .null, .null, .null, .null] [] (I3, L, ab_RR, n, nc, ns) res)) ∧ (¬ v4 ≤ 0 → (ab_E w (d + 1) mt_M_tellJoints 97 [.ref mx, .int v1, .int v2, .int v3, .int v4, .int 0, .null] [] (I, L, ab_RR, n, nc, ns) res)))) : ab_E w (d + 1) mt_M_tellJoints 89 [.ref mx, .int v1, .int v2, .int v3, .int v4, .null, .null] [] (I, L, ab_RR, n, nc, ns) res := by
  refine ab_iload (i := 4) d_M_tellJoints_89 rfl ?_
  refine ab_if_le (tgt := 165) d_M_tellJoints_91 (by decide) (fun c1 => ?_) (fun c1 => ?_)
  · have h := h.1 c1
    refine ab_aload_n (i := 0) d_M_tellJoints_165 rfl rfl ?_
    refine ab_iload_n (i := 2) d_M_tellJoints_166 rfl rfl ?_
    obtain ⟨I3, hC, h⟩ := h
    refine ab_callV (me2 := mt_M_spreads) (b := mx) (as := [.int v2]) (st := []) (rv := none) (M2 := (I3, L, ab_RR, n, nc, ns)) d_M_tellJoints_167 ce_M_spreads v_1888 v_1890 v_127 (by decide) rfl (by decide) hC (Nat.le_refl _) (Nat.le_refl _) hc hs (fun j h9 => by cases h9) (fun _ _ => rfl) ?_
    show ab_E w (d + 1) mt_M_tellJoints 170 [.ref mx, .int v1, .int v2, .int v3, .int v4, .null, .null] [] (I3, L, ab_RR, n, nc, ns) res
    refine ab_drop 3 ?_
    refine ab_drop 4 ?_
    exact h
  · have h := h.2 c1
    refine ab_iconst (v := 0) d_M_tellJoints_94 rfl ?_
    refine ab_istore (i := 5) d_M_tellJoints_95 (by decide) (Or.inr rfl) ?_
    exact h
theorem q_M_tellJoints_97 {w : ab_Wd} {d n nc ns : Nat} {I : Nat → Nat → Int32} {L : Nat → Nat → Int64} {res : ab_Re} (v1 : Int32) (v2 : Int32) (v3 : Int32) (v4 : Int32) (v5 : Int32) (hc : nc ≤ res.2.2.2.2.2.1) (hs : ns ≤ res.2.2.2.2.2.2)
    (h : (((I mx 2) ≤ v5 → (ab_E w (d + 1) mt_M_tellJoints 89 [.ref mx, .int v1, .int v2, .int v3, .int ((v4 - 1) &&& v2), .null, .null] [] (I, L, ab_RR, n, nc, ns) res)) ∧ (¬ (I mx 2) ≤ v5 → ((vp_in ((10 * v4) + v5) 10240) ∧ (vp_in ((10 * (v2 ^^^ v4)) + v5) 10240) ∧ ∃ (r4 : Int32) (I5 : Nat → Nat → Int32), ab_C w d mt_M_lessens [.ref mx, .int ((10 * v2) + v5), .int ((I mx_joint ((10 * v4) + v5).toNatClampNeg) + (I mx_joint ((10 * (v2 ^^^ v4)) + v5).toNatClampNeg))] (I, L, ab_RR, n, nc, ns) (.inl (some (.int r4)), (I5, L, ab_RR, n, nc, ns)) ∧ ab_E w (d + 1) mt_M_tellJoints 97 [.ref mx, .int v1, .int v2, .int v3, .int v4, .int (v5 + 1), .null] [] (I5, L, ab_RR, n, nc, ns) res)))) : ab_E w (d + 1) mt_M_tellJoints 97 [.ref mx, .int v1, .int v2, .int v3, .int v4, .int v5, .null] [] (I, L, ab_RR, n, nc, ns) res := by
  refine ab_iload (i := 5) d_M_tellJoints_97 rfl ?_
  refine ab_aload_n (i := 0) d_M_tellJoints_99 rfl rfl ?_
  refine ab_getI (ci := 11) (k := 2) d_M_tellJoints_100 v_1370 rfl (by decide) (by decide) rfl ?_
  refine ab_icmp_ge (tgt := 154) d_M_tellJoints_103 (by decide) (fun c1 => ?_) (fun c1 => ?_)
  · have h := h.1 c1
    refine ab_iload (i := 4) d_M_tellJoints_154 rfl ?_
    refine ab_iconst (v := 1) d_M_tellJoints_156 rfl ?_
    refine ab_isub d_M_tellJoints_157 ?_
    refine ab_iload_n (i := 2) d_M_tellJoints_158 rfl rfl ?_
    refine ab_iand d_M_tellJoints_159 ?_
    refine ab_istore (i := 4) d_M_tellJoints_160 (by decide) (Or.inr rfl) ?_
    refine ab_goto (tgt := 89) d_M_tellJoints_162 (by decide) ?_
    refine ab_drop 5 ?_
    exact h
  · have h := h.2 c1
    refine ab_aload_n (i := 0) d_M_tellJoints_106 rfl rfl ?_
    refine ab_bipush (v := 10) d_M_tellJoints_107 rfl ?_
    refine ab_iload_n (i := 2) d_M_tellJoints_109 rfl rfl ?_
    refine ab_imul d_M_tellJoints_110 ?_
    refine ab_iload (i := 5) d_M_tellJoints_111 rfl ?_
    refine ab_iadd d_M_tellJoints_113 ?_
    refine ab_aload_n (i := 0) d_M_tellJoints_114 rfl rfl ?_
    refine ab_getR (ci := 11) (k := 40) (j := mx_joint) d_M_tellJoints_115 v_1408 rfl (by decide) (by decide) rfl r_mx_40 ?_
    refine ab_bipush (v := 10) d_M_tellJoints_118 rfl ?_
    refine ab_iload (i := 4) d_M_tellJoints_120 rfl ?_
    refine ab_imul d_M_tellJoints_122 ?_
    refine ab_iload (i := 5) d_M_tellJoints_123 rfl ?_
    refine ab_iadd d_M_tellJoints_125 ?_
    have g2 := h.1; have h := h.2
    refine ab_iald d_M_tellJoints_126 rfl rfl g2 ?_
    refine ab_aload_n (i := 0) d_M_tellJoints_127 rfl rfl ?_
    refine ab_getR (ci := 11) (k := 40) (j := mx_joint) d_M_tellJoints_128 v_1408 rfl (by decide) (by decide) rfl r_mx_40 ?_
    refine ab_bipush (v := 10) d_M_tellJoints_131 rfl ?_
    refine ab_iload_n (i := 2) d_M_tellJoints_133 rfl rfl ?_
    refine ab_iload (i := 4) d_M_tellJoints_134 rfl ?_
    refine ab_ixor d_M_tellJoints_136 ?_
    refine ab_imul d_M_tellJoints_137 ?_
    refine ab_iload (i := 5) d_M_tellJoints_138 rfl ?_
    refine ab_iadd d_M_tellJoints_140 ?_
    have g3 := h.1; have h := h.2
    refine ab_iald d_M_tellJoints_141 rfl rfl g3 ?_
    refine ab_iadd d_M_tellJoints_142 ?_
    obtain ⟨r4, I5, hC, h⟩ := h
    refine ab_callV (me2 := mt_M_lessens) (b := mx) (as := [.int ((10 * v2) + v5), .int ((I mx_joint ((10 * v4) + v5).toNatClampNeg) + (I mx_joint ((10 * (v2 ^^^ v4)) + v5).toNatClampNeg))]) (st := []) (rv := (some (.int r4))) (M2 := (I5, L, ab_RR, n, nc, ns)) d_M_tellJoints_143 ce_M_lessens v_1884 v_1886 v_126 (by decide) rfl (by decide) hC (Nat.le_refl _) (Nat.le_refl _) hc hs (fun j h9 => by cases h9) (fun _ _ => rfl) ?_
    show ab_E w (d + 1) mt_M_tellJoints 146 [.ref mx, .int v1, .int v2, .int v3, .int v4, .int v5, .null] [.int r4] (I5, L, ab_RR, n, nc, ns) res
    refine ab_istore (i := 6) d_M_tellJoints_146 (by decide) (Or.inr rfl) ?_
    refine ab_iinc (i := 5) (v := (v5 + 1)) d_M_tellJoints_148 rfl rfl (by decide) (Or.inr rfl) ?_
    refine ab_goto (tgt := 97) d_M_tellJoints_151 (by decide) ?_
    refine ab_drop 6 ?_
    exact h
theorem q_M_tellJoints_170 {w : ab_Wd} {d n nc ns : Nat} {I : Nat → Nat → Int32} {L : Nat → Nat → Int64} {res : ab_Re} (v1 : Int32) (v2 : Int32) (hc : nc ≤ res.2.2.2.2.2.1) (hs : ns ≤ res.2.2.2.2.2.2)
    (h : ab_E w (d + 1) mt_M_tellJoints 2 [.ref mx, .int v1, .int (v2 + 1), .null, .null, .null, .null] [] (I, L, ab_RR, n, nc, ns) res) : ab_E w (d + 1) mt_M_tellJoints 170 [.ref mx, .int v1, .int v2, .null, .null, .null, .null] [] (I, L, ab_RR, n, nc, ns) res := by
  refine ab_iinc (i := 2) (v := (v2 + 1)) d_M_tellJoints_170 rfl rfl (by decide) (Or.inr rfl) ?_
  refine ab_goto (tgt := 2) d_M_tellJoints_173 (by decide) ?_
  exact h
theorem d_M_joined_0 : decode (ab_bc mt_M_joined) 0 = .ok (.aload_n 0, 1) := by decide +kernel
theorem d_M_joined_1 : decode (ab_bc mt_M_joined) 1 = .ok (.iconst 0, 1) := by decide +kernel
theorem d_M_joined_2 : decode (ab_bc mt_M_joined) 2 = .ok (.putfield 108, 3) := by decide +kernel
theorem d_M_joined_5 : decode (ab_bc mt_M_joined) 5 = .ok (.iload_n 1, 1) := by decide +kernel
theorem d_M_joined_6 : decode (ab_bc mt_M_joined) 6 = .ok (.iconst 0, 1) := by decide +kernel
theorem d_M_joined_7 : decode (ab_bc mt_M_joined) 7 = .ok (.iconst 1, 1) := by decide +kernel
theorem d_M_joined_8 : decode (ab_bc mt_M_joined) 8 = .ok (.aload_n 0, 1) := by decide +kernel
theorem d_M_joined_9 : decode (ab_bc mt_M_joined) 9 = .ok (.getfield 21, 3) := by decide +kernel
theorem d_M_joined_12 : decode (ab_bc mt_M_joined) 12 = .ok (.ishl, 1) := by decide +kernel
theorem d_M_joined_13 : decode (ab_bc mt_M_joined) 13 = .ok (.iconst 1, 1) := by decide +kernel
theorem d_M_joined_14 : decode (ab_bc mt_M_joined) 14 = .ok (.isub, 1) := by decide +kernel
theorem d_M_joined_15 : decode (ab_bc mt_M_joined) 15 = .ok (.invokestatic 344, 3) := by decide +kernel
theorem d_M_joined_18 : decode (ab_bc mt_M_joined) 18 = .ok (.ifCond .ne 9, 3) := by decide +kernel
theorem d_M_joined_21 : decode (ab_bc mt_M_joined) 21 = .ok (.aload_n 0, 1) := by decide +kernel
theorem d_M_joined_22 : decode (ab_bc mt_M_joined) 22 = .ok (.iconst 1, 1) := by decide +kernel
theorem d_M_joined_23 : decode (ab_bc mt_M_joined) 23 = .ok (.invokevirtual 202, 3) := by decide +kernel
theorem d_M_joined_26 : decode (ab_bc mt_M_joined) 26 = .ok (.ireturn, 1) := by decide +kernel
theorem d_M_joined_27 : decode (ab_bc mt_M_joined) 27 = .ok (.iload_n 1, 1) := by decide +kernel
theorem d_M_joined_28 : decode (ab_bc mt_M_joined) 28 = .ok (.invokestatic 425, 3) := by decide +kernel
theorem d_M_joined_31 : decode (ab_bc mt_M_joined) 31 = .ok (.iconst 2, 1) := by decide +kernel
theorem d_M_joined_32 : decode (ab_bc mt_M_joined) 32 = .ok (.if_icmp .ge 5, 3) := by decide +kernel
theorem d_M_joined_35 : decode (ab_bc mt_M_joined) 35 = .ok (.iconst 0, 1) := by decide +kernel
theorem d_M_joined_36 : decode (ab_bc mt_M_joined) 36 = .ok (.ireturn, 1) := by decide +kernel
theorem d_M_joined_37 : decode (ab_bc mt_M_joined) 37 = .ok (.aload_n 0, 1) := by decide +kernel
theorem d_M_joined_38 : decode (ab_bc mt_M_joined) 38 = .ok (.iload_n 1, 1) := by decide +kernel
theorem d_M_joined_39 : decode (ab_bc mt_M_joined) 39 = .ok (.invokevirtual 431, 3) := by decide +kernel
theorem d_M_joined_42 : decode (ab_bc mt_M_joined) 42 = .ok (.ldc_w 330, 3) := by decide +kernel
theorem d_M_joined_45 : decode (ab_bc mt_M_joined) 45 = .ok (.istore_n 2, 1) := by decide +kernel
theorem d_M_joined_46 : decode (ab_bc mt_M_joined) 46 = .ok (.iconst 0, 1) := by decide +kernel
theorem d_M_joined_47 : decode (ab_bc mt_M_joined) 47 = .ok (.istore_n 3, 1) := by decide +kernel
theorem d_M_joined_48 : decode (ab_bc mt_M_joined) 48 = .ok (.iload_n 3, 1) := by decide +kernel
theorem d_M_joined_49 : decode (ab_bc mt_M_joined) 49 = .ok (.aload_n 0, 1) := by decide +kernel
theorem d_M_joined_50 : decode (ab_bc mt_M_joined) 50 = .ok (.getfield 21, 3) := by decide +kernel
theorem d_M_joined_53 : decode (ab_bc mt_M_joined) 53 = .ok (.if_icmp .ge 25, 3) := by decide +kernel
theorem d_M_joined_56 : decode (ab_bc mt_M_joined) 56 = .ok (.iload_n 2, 1) := by decide +kernel
theorem d_M_joined_57 : decode (ab_bc mt_M_joined) 57 = .ok (.aload_n 0, 1) := by decide +kernel
theorem d_M_joined_58 : decode (ab_bc mt_M_joined) 58 = .ok (.getfield 78, 3) := by decide +kernel
theorem d_M_joined_61 : decode (ab_bc mt_M_joined) 61 = .ok (.bipush 10, 2) := by decide +kernel
theorem d_M_joined_63 : decode (ab_bc mt_M_joined) 63 = .ok (.iload_n 1, 1) := by decide +kernel
theorem d_M_joined_64 : decode (ab_bc mt_M_joined) 64 = .ok (.imul, 1) := by decide +kernel
theorem d_M_joined_65 : decode (ab_bc mt_M_joined) 65 = .ok (.iload_n 3, 1) := by decide +kernel
theorem d_M_joined_66 : decode (ab_bc mt_M_joined) 66 = .ok (.iadd, 1) := by decide +kernel
theorem d_M_joined_67 : decode (ab_bc mt_M_joined) 67 = .ok (.iaload, 1) := by decide +kernel
theorem d_M_joined_68 : decode (ab_bc mt_M_joined) 68 = .ok (.invokestatic 141, 3) := by decide +kernel
theorem d_M_joined_71 : decode (ab_bc mt_M_joined) 71 = .ok (.istore_n 2, 1) := by decide +kernel
theorem d_M_joined_72 : decode (ab_bc mt_M_joined) 72 = .ok (.iinc 3 1, 3) := by decide +kernel
theorem d_M_joined_75 : decode (ab_bc mt_M_joined) 75 = .ok (.goto (-27), 3) := by decide +kernel
theorem d_M_joined_78 : decode (ab_bc mt_M_joined) 78 = .ok (.iload_n 2, 1) := by decide +kernel
theorem d_M_joined_79 : decode (ab_bc mt_M_joined) 79 = .ok (.ldc_w 330, 3) := by decide +kernel
theorem d_M_joined_82 : decode (ab_bc mt_M_joined) 82 = .ok (.if_icmp .lt 7, 3) := by decide +kernel
theorem d_M_joined_85 : decode (ab_bc mt_M_joined) 85 = .ok (.iconst (-1), 1) := by decide +kernel
theorem d_M_joined_86 : decode (ab_bc mt_M_joined) 86 = .ok (.goto 4, 3) := by decide +kernel
theorem d_M_joined_89 : decode (ab_bc mt_M_joined) 89 = .ok (.iload_n 2, 1) := by decide +kernel
theorem d_M_joined_90 : decode (ab_bc mt_M_joined) 90 = .ok (.ireturn, 1) := by decide +kernel
-- CableKeeperModel.joined(I)I over mx
theorem q_M_joined_0 {w : ab_Wd} {d n nc ns : Nat} {I : Nat → Nat → Int32} {L : Nat → Nat → Int64} {res : ab_Re} (v1 : Int32) (hc : nc ≤ res.2.2.2.2.2.1) (hs : ns ≤ res.2.2.2.2.2.2)
    (h : ∃ (r1 : Int32), ab_C w d mt_M_isIn [.int v1, .int 0, .int ((1 <<< (((ab_up I mx 1 0) mx 2) &&& 31)) - 1)] ((ab_up I mx 1 0), L, ab_RR, n, nc, ns) (.inl (some (.int r1)), ((ab_up I mx 1 0), L, ab_RR, n, nc, ns)) ∧ ((¬ r1 = 0 → (∃ (r3 : Int32), ab_C w d mt_Integer_bitCount [.int v1] ((ab_up I mx 1 0), L, ab_RR, n, nc, ns) (.inl (some (.int r3)), ((ab_up I mx 1 0), L, ab_RR, n, nc, ns)) ∧ ((2 ≤ r3 → (∃ (I6 : Nat → Nat → Int32), ab_C w d mt_M_tellJoints [.ref mx, .int v1] ((ab_up I mx 1 0), L, ab_RR, n, nc, ns) (.inl none, (I6, L, ab_RR, n, nc, ns)) ∧ ab_E w (d + 1) mt_M_joined 48 [.ref mx, .int v1, .int 1000000, .int 0] [] (I6, L, ab_RR, n, nc, ns) res)) ∧ (¬ 2 ≤ r3 → (res = (.inl (some (.int 0)), ((ab_up I mx 1 0), L, ab_RR, n, nc, ns))))))) ∧ (r1 = 0 → (∃ (r7 : Int32) (I8 : Nat → Nat → Int32), ab_C w d mt_M_fail [.ref mx, .int 1] ((ab_up I mx 1 0), L, ab_RR, n, nc, ns) (.inl (some (.int r7)), (I8, L, ab_RR, n, nc, ns)) ∧ res = (.inl (some (.int r7)), (I8, L, ab_RR, n, nc, ns)))))) : ab_E w (d + 1) mt_M_joined 0 [.ref mx, .int v1, .null, .null] [] (I, L, ab_RR, n, nc, ns) res := by
  refine ab_aload_n (i := 0) d_M_joined_0 rfl rfl ?_
  refine ab_iconst (v := 0) d_M_joined_1 rfl ?_
  refine ab_putI (ci := 11) (k := 1) d_M_joined_2 v_1369 rfl (by decide) (by decide) rfl (Or.inl rfl) rfl rfl ?_
  refine ab_iload_n (i := 1) d_M_joined_5 rfl rfl ?_
  refine ab_iconst (v := 0) d_M_joined_6 rfl ?_
  refine ab_iconst (v := 1) d_M_joined_7 rfl ?_
  refine ab_aload_n (i := 0) d_M_joined_8 rfl rfl ?_
  refine ab_getI (ci := 11) (k := 2) d_M_joined_9 v_1370 rfl (by decide) (by decide) rfl ?_
  refine ab_ishl d_M_joined_12 ?_
  refine ab_iconst (v := 1) d_M_joined_13 rfl ?_
  refine ab_isub d_M_joined_14 ?_
  obtain ⟨r1, hC, h⟩ := h
  refine ab_callS (me2 := mt_M_isIn) (as := [.int v1, .int 0, .int ((1 <<< (((ab_up I mx 1 0) mx 2) &&& 31)) - 1)]) (st := []) (rv := (some (.int r1))) (M2 := ((ab_up I mx 1 0), L, ab_RR, n, nc, ns)) d_M_joined_15 ce_M_isIn ⟨v_1753, Or.inl v_1752⟩ (by decide) hC (Nat.le_refl _) (Nat.le_refl _) hc hs (fun j h9 => by cases h9) (fun _ _ => rfl) ?_
  show ab_E w (d + 1) mt_M_joined 18 [.ref mx, .int v1, .null, .null] [.int r1] ((ab_up I mx 1 0), L, ab_RR, n, nc, ns) res
  refine ab_if_ne (tgt := 27) d_M_joined_18 (by decide) (fun c2 => ?_) (fun c2 => ?_)
  · have h := h.1 c2
    refine ab_iload_n (i := 1) d_M_joined_27 rfl rfl ?_
    obtain ⟨r3, hC, h⟩ := h
    refine ab_callS (me2 := mt_Integer_bitCount) (as := [.int v1]) (st := []) (rv := (some (.int r3))) (M2 := ((ab_up I mx 1 0), L, ab_RR, n, nc, ns)) d_M_joined_28 ce_Integer_bitCount ⟨v_965, Or.inl v_1879⟩ (by decide) hC (Nat.le_refl _) (Nat.le_refl _) hc hs (fun j h9 => by cases h9) (fun _ _ => rfl) ?_
    show ab_E w (d + 1) mt_M_joined 31 [.ref mx, .int v1, .null, .null] [.int r3] ((ab_up I mx 1 0), L, ab_RR, n, nc, ns) res
    refine ab_iconst (v := 2) d_M_joined_31 rfl ?_
    refine ab_icmp_ge (tgt := 37) d_M_joined_32 (by decide) (fun c4 => ?_) (fun c4 => ?_)
    · have h := h.1 c4
      refine ab_aload_n (i := 0) d_M_joined_37 rfl rfl ?_
      refine ab_iload_n (i := 1) d_M_joined_38 rfl rfl ?_
      obtain ⟨I6, hC, h⟩ := h
      refine ab_callV (me2 := mt_M_tellJoints) (b := mx) (as := [.int v1]) (st := []) (rv := none) (M2 := (I6, L, ab_RR, n, nc, ns)) d_M_joined_39 ce_M_tellJoints v_1880 v_1882 v_125 (by decide) rfl (by decide) hC (Nat.le_refl _) (Nat.le_refl _) hc hs (fun j h9 => by cases h9) (fun _ _ => rfl) ?_
      show ab_E w (d + 1) mt_M_joined 42 [.ref mx, .int v1, .null, .null] [] (I6, L, ab_RR, n, nc, ns) res
      refine ab_ldcw (v := 1000000) d_M_joined_42 v_1743 ?_
      refine ab_istore_n (i := 2) d_M_joined_45 rfl (by decide) (Or.inr rfl) ?_
      refine ab_iconst (v := 0) d_M_joined_46 rfl ?_
      refine ab_istore_n (i := 3) d_M_joined_47 rfl (by decide) (Or.inr rfl) ?_
      exact h
    · have h := h.2 c4
      refine ab_iconst (v := 0) d_M_joined_35 rfl ?_
      exact ab_iret (ty := .int) d_M_joined_36 rfl rfl h
  · have h := h.2 c2
    refine ab_aload_n (i := 0) d_M_joined_21 rfl rfl ?_
    refine ab_iconst (v := 1) d_M_joined_22 rfl ?_
    obtain ⟨r7, I8, hC, h⟩ := h
    refine ab_callV (me2 := mt_M_fail) (b := mx) (as := [.int 1]) (st := []) (rv := (some (.int r7))) (M2 := (I8, L, ab_RR, n, nc, ns)) d_M_joined_23 ce_M_fail v_1562 v_1564 v_66 (by decide) rfl (by decide) hC (Nat.le_refl _) (Nat.le_refl _) hc hs (fun j h9 => by cases h9) (fun _ _ => rfl) ?_
    show ab_E w (d + 1) mt_M_joined 26 [.ref mx, .int v1, .null, .null] [.int r7] (I8, L, ab_RR, n, nc, ns) res
    exact ab_iret (ty := .int) d_M_joined_26 rfl rfl h
theorem q_M_joined_48 {w : ab_Wd} {d n nc ns : Nat} {I : Nat → Nat → Int32} {L : Nat → Nat → Int64} {res : ab_Re} (v1 : Int32) (v2 : Int32) (v3 : Int32) (hc : nc ≤ res.2.2.2.2.2.1) (hs : ns ≤ res.2.2.2.2.2.2)
    (h : (((I mx 2) ≤ v3 → ((v2 < 1000000 → (ab_E w (d + 1) mt_M_joined 90 [.ref mx, .int v1, .int v2, .int v3] [.int v2] (I, L, ab_RR, n, nc, ns) res)) ∧ (¬ v2 < 1000000 → (ab_E w (d + 1) mt_M_joined 90 [.ref mx, .int v1, .int v2, .int v3] [.int (-1)] (I, L, ab_RR, n, nc, ns) res)))) ∧ (¬ (I mx 2) ≤ v3 → ((vp_in ((10 * v1) + v3) 10240) ∧ ab_E w (d + 1) mt_M_joined 48 [.ref mx, .int v1, .int (ab_min32 v2 (I mx_joint ((10 * v1) + v3).toNatClampNeg)), .int (v3 + 1)] [] (I, L, ab_RR, n, nc, ns) res)))) : ab_E w (d + 1) mt_M_joined 48 [.ref mx, .int v1, .int v2, .int v3] [] (I, L, ab_RR, n, nc, ns) res := by
  refine ab_iload_n (i := 3) d_M_joined_48 rfl rfl ?_
  refine ab_aload_n (i := 0) d_M_joined_49 rfl rfl ?_
  refine ab_getI (ci := 11) (k := 2) d_M_joined_50 v_1370 rfl (by decide) (by decide) rfl ?_
  refine ab_icmp_ge (tgt := 78) d_M_joined_53 (by decide) (fun c1 => ?_) (fun c1 => ?_)
  · have h := h.1 c1
    refine ab_iload_n (i := 2) d_M_joined_78 rfl rfl ?_
    refine ab_ldcw (v := 1000000) d_M_joined_79 v_1743 ?_
    refine ab_icmp_lt (tgt := 89) d_M_joined_82 (by decide) (fun c2 => ?_) (fun c2 => ?_)
    · have h := h.1 c2
      refine ab_iload_n (i := 2) d_M_joined_89 rfl rfl ?_
      exact h
    · have h := h.2 c2
      refine ab_iconst (v := (-1)) d_M_joined_85 rfl ?_
      refine ab_goto (tgt := 90) d_M_joined_86 (by decide) ?_
      exact h
  · have h := h.2 c1
    refine ab_iload_n (i := 2) d_M_joined_56 rfl rfl ?_
    refine ab_aload_n (i := 0) d_M_joined_57 rfl rfl ?_
    refine ab_getR (ci := 11) (k := 40) (j := mx_joint) d_M_joined_58 v_1408 rfl (by decide) (by decide) rfl r_mx_40 ?_
    refine ab_bipush (v := 10) d_M_joined_61 rfl ?_
    refine ab_iload_n (i := 1) d_M_joined_63 rfl rfl ?_
    refine ab_imul d_M_joined_64 ?_
    refine ab_iload_n (i := 3) d_M_joined_65 rfl rfl ?_
    refine ab_iadd d_M_joined_66 ?_
    have g3 := h.1; have h := h.2
    refine ab_iald d_M_joined_67 rfl rfl g3 ?_
    refine ab_min d_M_joined_68 v_1581 v_448 v_150 v_449 (Nat.succ_le_succ (Nat.zero_le _)) (by decide) hc hs ?_
    refine ab_istore_n (i := 2) d_M_joined_71 rfl (by decide) (Or.inr rfl) ?_
    refine ab_iinc (i := 3) (v := (v3 + 1)) d_M_joined_72 rfl rfl (by decide) (Or.inr rfl) ?_
    refine ab_goto (tgt := 48) d_M_joined_75 (by decide) ?_
    exact h
theorem q_M_joined_90 {w : ab_Wd} {d n nc ns : Nat} {I : Nat → Nat → Int32} {L : Nat → Nat → Int64} {res : ab_Re} (v1 : Int32) (v2 : Int32) (v3 : Int32) (s0 : Int32) (hc : nc ≤ res.2.2.2.2.2.1) (hs : ns ≤ res.2.2.2.2.2.2)
    (h : res = (.inl (some (.int s0)), (I, L, ab_RR, n, nc, ns))) : ab_E w (d + 1) mt_M_joined 90 [.ref mx, .int v1, .int v2, .int v3] [.int s0] (I, L, ab_RR, n, nc, ns) res := by
  exact ab_iret (ty := .int) d_M_joined_90 rfl rfl h
theorem d_M_swap_0 : decode (ab_bc mt_M_swap) 0 = .ok (.aload_n 0, 1) := by decide +kernel
theorem d_M_swap_1 : decode (ab_bc mt_M_swap) 1 = .ok (.iconst 0, 1) := by decide +kernel
theorem d_M_swap_2 : decode (ab_bc mt_M_swap) 2 = .ok (.putfield 108, 3) := by decide +kernel
theorem d_M_swap_5 : decode (ab_bc mt_M_swap) 5 = .ok (.iload_n 1, 1) := by decide +kernel
theorem d_M_swap_6 : decode (ab_bc mt_M_swap) 6 = .ok (.iconst 0, 1) := by decide +kernel
theorem d_M_swap_7 : decode (ab_bc mt_M_swap) 7 = .ok (.bipush 60, 2) := by decide +kernel
theorem d_M_swap_9 : decode (ab_bc mt_M_swap) 9 = .ok (.aload_n 0, 1) := by decide +kernel
theorem d_M_swap_10 : decode (ab_bc mt_M_swap) 10 = .ok (.getfield 24, 3) := by decide +kernel
theorem d_M_swap_13 : decode (ab_bc mt_M_swap) 13 = .ok (.iconst 2, 1) := by decide +kernel
theorem d_M_swap_14 : decode (ab_bc mt_M_swap) 14 = .ok (.iaload, 1) := by decide +kernel
theorem d_M_swap_15 : decode (ab_bc mt_M_swap) 15 = .ok (.invokestatic 141, 3) := by decide +kernel
theorem d_M_swap_18 : decode (ab_bc mt_M_swap) 18 = .ok (.iconst 1, 1) := by decide +kernel
theorem d_M_swap_19 : decode (ab_bc mt_M_swap) 19 = .ok (.isub, 1) := by decide +kernel
theorem d_M_swap_20 : decode (ab_bc mt_M_swap) 20 = .ok (.invokestatic 344, 3) := by decide +kernel
theorem d_M_swap_23 : decode (ab_bc mt_M_swap) 23 = .ok (.ifCond .eq 16, 3) := by decide +kernel
theorem d_M_swap_26 : decode (ab_bc mt_M_swap) 26 = .ok (.iload_n 2, 1) := by decide +kernel
theorem d_M_swap_27 : decode (ab_bc mt_M_swap) 27 = .ok (.iconst 0, 1) := by decide +kernel
theorem d_M_swap_28 : decode (ab_bc mt_M_swap) 28 = .ok (.iconst 4, 1) := by decide +kernel
theorem d_M_swap_29 : decode (ab_bc mt_M_swap) 29 = .ok (.invokestatic 344, 3) := by decide +kernel
theorem d_M_swap_32 : decode (ab_bc mt_M_swap) 32 = .ok (.ifCond .eq 7, 3) := by decide +kernel
theorem d_M_swap_35 : decode (ab_bc mt_M_swap) 35 = .ok (.iconst 1, 1) := by decide +kernel
theorem d_M_swap_36 : decode (ab_bc mt_M_swap) 36 = .ok (.goto 4, 3) := by decide +kernel
theorem d_M_swap_39 : decode (ab_bc mt_M_swap) 39 = .ok (.iconst 0, 1) := by decide +kernel
theorem d_M_swap_40 : decode (ab_bc mt_M_swap) 40 = .ok (.istore_n 3, 1) := by decide +kernel
theorem d_M_swap_41 : decode (ab_bc mt_M_swap) 41 = .ok (.iload_n 3, 1) := by decide +kernel
theorem d_M_swap_42 : decode (ab_bc mt_M_swap) 42 = .ok (.ifCond .eq 31, 3) := by decide +kernel
theorem d_M_swap_45 : decode (ab_bc mt_M_swap) 45 = .ok (.aload_n 0, 1) := by decide +kernel
theorem d_M_swap_46 : decode (ab_bc mt_M_swap) 46 = .ok (.getfield 24, 3) := by decide +kernel
theorem d_M_swap_49 : decode (ab_bc mt_M_swap) 49 = .ok (.bipush 99, 2) := by decide +kernel
theorem d_M_swap_51 : decode (ab_bc mt_M_swap) 51 = .ok (.iconst 5, 1) := by decide +kernel
theorem d_M_swap_52 : decode (ab_bc mt_M_swap) 52 = .ok (.aload_n 0, 1) := by decide +kernel
theorem d_M_swap_53 : decode (ab_bc mt_M_swap) 53 = .ok (.getfield 24, 3) := by decide +kernel
theorem d_M_swap_56 : decode (ab_bc mt_M_swap) 56 = .ok (.iconst 2, 1) := by decide +kernel
theorem d_M_swap_57 : decode (ab_bc mt_M_swap) 57 = .ok (.iaload, 1) := by decide +kernel
theorem d_M_swap_58 : decode (ab_bc mt_M_swap) 58 = .ok (.iconst 1, 1) := by decide +kernel
theorem d_M_swap_59 : decode (ab_bc mt_M_swap) 59 = .ok (.isub, 1) := by decide +kernel
theorem d_M_swap_60 : decode (ab_bc mt_M_swap) 60 = .ok (.iload_n 1, 1) := by decide +kernel
theorem d_M_swap_61 : decode (ab_bc mt_M_swap) 61 = .ok (.isub, 1) := by decide +kernel
theorem d_M_swap_62 : decode (ab_bc mt_M_swap) 62 = .ok (.bipush 60, 2) := by decide +kernel
theorem d_M_swap_64 : decode (ab_bc mt_M_swap) 64 = .ok (.irem, 1) := by decide +kernel
theorem d_M_swap_65 : decode (ab_bc mt_M_swap) 65 = .ok (.imul, 1) := by decide +kernel
theorem d_M_swap_66 : decode (ab_bc mt_M_swap) 66 = .ok (.iadd, 1) := by decide +kernel
theorem d_M_swap_67 : decode (ab_bc mt_M_swap) 67 = .ok (.iload_n 2, 1) := by decide +kernel
theorem d_M_swap_68 : decode (ab_bc mt_M_swap) 68 = .ok (.iadd, 1) := by decide +kernel
theorem d_M_swap_69 : decode (ab_bc mt_M_swap) 69 = .ok (.iaload, 1) := by decide +kernel
theorem d_M_swap_70 : decode (ab_bc mt_M_swap) 70 = .ok (.goto 8, 3) := by decide +kernel
theorem d_M_swap_73 : decode (ab_bc mt_M_swap) 73 = .ok (.aload_n 0, 1) := by decide +kernel
theorem d_M_swap_74 : decode (ab_bc mt_M_swap) 74 = .ok (.iconst 1, 1) := by decide +kernel
theorem d_M_swap_75 : decode (ab_bc mt_M_swap) 75 = .ok (.invokevirtual 202, 3) := by decide +kernel
theorem d_M_swap_78 : decode (ab_bc mt_M_swap) 78 = .ok (.ireturn, 1) := by decide +kernel
-- CableKeeperModel.swap(II)I over mx
theorem q_M_swap_0 {w : ab_Wd} {d n nc ns : Nat} {I : Nat → Nat → Int32} {L : Nat → Nat → Int64} {res : ab_Re} (v1 : Int32) (v2 : Int32) (hc : nc ≤ res.2.2.2.2.2.1) (hs : ns ≤ res.2.2.2.2.2.2)
    (h : ∃ (r1 : Int32), ab_C w d mt_M_isIn [.int v1, .int 0, .int ((ab_min32 60 ((ab_up I mx 1 0) mx_now 2)) - 1)] ((ab_up I mx 1 0), L, ab_RR, n, nc, ns) (.inl (some (.int r1)), ((ab_up I mx 1 0), L, ab_RR, n, nc, ns)) ∧ ((r1 = 0 → (ab_E w (d + 1) mt_M_swap 39 [.ref mx, .int v1, .int v2, .null] [] ((ab_up I mx 1 0), L, ab_RR, n, nc, ns) res)) ∧ (¬ r1 = 0 → (∃ (r3 : Int32), ab_C w d mt_M_isIn [.int v2, .int 0, .int 4] ((ab_up I mx 1 0), L, ab_RR, n, nc, ns) (.inl (some (.int r3)), ((ab_up I mx 1 0), L, ab_RR, n, nc, ns)) ∧ ((r3 = 0 → (ab_E w (d + 1) mt_M_swap 39 [.ref mx, .int v1, .int v2, .null] [] ((ab_up I mx 1 0), L, ab_RR, n, nc, ns) res)) ∧ (¬ r3 = 0 → (ab_E w (d + 1) mt_M_swap 40 [.ref mx, .int v1, .int v2, .null] [.int 1] ((ab_up I mx 1 0), L, ab_RR, n, nc, ns) res))))))) : ab_E w (d + 1) mt_M_swap 0 [.ref mx, .int v1, .int v2, .null] [] (I, L, ab_RR, n, nc, ns) res := by
  refine ab_aload_n (i := 0) d_M_swap_0 rfl rfl ?_
  refine ab_iconst (v := 0) d_M_swap_1 rfl ?_
  refine ab_putI (ci := 11) (k := 1) d_M_swap_2 v_1369 rfl (by decide) (by decide) rfl (Or.inl rfl) rfl rfl ?_
  refine ab_iload_n (i := 1) d_M_swap_5 rfl rfl ?_
  refine ab_iconst (v := 0) d_M_swap_6 rfl ?_
  refine ab_bipush (v := 60) d_M_swap_7 rfl ?_
  refine ab_aload_n (i := 0) d_M_swap_9 rfl rfl ?_
  refine ab_getR (ci := 11) (k := 4) (j := mx_now) d_M_swap_10 v_1372 rfl (by decide) (by decide) rfl r_mx_4 ?_
  refine ab_iconst (v := 2) d_M_swap_13 rfl ?_
  refine ab_iald d_M_swap_14 rfl rfl (by unfold vp_in; decide) ?_
  refine ab_min d_M_swap_15 v_1581 v_448 v_150 v_449 (Nat.succ_le_succ (Nat.zero_le _)) (by decide) hc hs ?_
  refine ab_iconst (v := 1) d_M_swap_18 rfl ?_
  refine ab_isub d_M_swap_19 ?_
  obtain ⟨r1, hC, h⟩ := h
  refine ab_callS (me2 := mt_M_isIn) (as := [.int v1, .int 0, .int ((ab_min32 60 ((ab_up I mx 1 0) mx_now 2)) - 1)]) (st := []) (rv := (some (.int r1))) (M2 := ((ab_up I mx 1 0), L, ab_RR, n, nc, ns)) d_M_swap_20 ce_M_isIn ⟨v_1753, Or.inl v_1752⟩ (by decide) hC (Nat.le_refl _) (Nat.le_refl _) hc hs (fun j h9 => by cases h9) (fun _ _ => rfl) ?_
  show ab_E w (d + 1) mt_M_swap 23 [.ref mx, .int v1, .int v2, .null] [.int r1] ((ab_up I mx 1 0), L, ab_RR, n, nc, ns) res
  refine ab_if_eq (tgt := 39) d_M_swap_23 (by decide) (fun c2 => ?_) (fun c2 => ?_)
  · have h := h.1 c2
    exact h
  · have h := h.2 c2
    refine ab_iload_n (i := 2) d_M_swap_26 rfl rfl ?_
    refine ab_iconst (v := 0) d_M_swap_27 rfl ?_
    refine ab_iconst (v := 4) d_M_swap_28 rfl ?_
    obtain ⟨r3, hC, h⟩ := h
    refine ab_callS (me2 := mt_M_isIn) (as := [.int v2, .int 0, .int 4]) (st := []) (rv := (some (.int r3))) (M2 := ((ab_up I mx 1 0), L, ab_RR, n, nc, ns)) d_M_swap_29 ce_M_isIn ⟨v_1753, Or.inl v_1752⟩ (by decide) hC (Nat.le_refl _) (Nat.le_refl _) hc hs (fun j h9 => by cases h9) (fun _ _ => rfl) ?_
    show ab_E w (d + 1) mt_M_swap 32 [.ref mx, .int v1, .int v2, .null] [.int r3] ((ab_up I mx 1 0), L, ab_RR, n, nc, ns) res
    refine ab_if_eq (tgt := 39) d_M_swap_32 (by decide) (fun c4 => ?_) (fun c4 => ?_)
    · have h := h.1 c4
      exact h
    · have h := h.2 c4
      refine ab_iconst (v := 1) d_M_swap_35 rfl ?_
      refine ab_goto (tgt := 40) d_M_swap_36 (by decide) ?_
      exact h
theorem q_M_swap_39 {w : ab_Wd} {d n nc ns : Nat} {I : Nat → Nat → Int32} {L : Nat → Nat → Int64} {res : ab_Re} (v1 : Int32) (v2 : Int32) (hc : nc ≤ res.2.2.2.2.2.1) (hs : ns ≤ res.2.2.2.2.2.2)
    (h : ab_E w (d + 1) mt_M_swap 40 [.ref mx, .int v1, .int v2, .null] [.int 0] (I, L, ab_RR, n, nc, ns) res) : ab_E w (d + 1) mt_M_swap 39 [.ref mx, .int v1, .int v2, .null] [] (I, L, ab_RR, n, nc, ns) res := by
  refine ab_iconst (v := 0) d_M_swap_39 rfl ?_
  exact h
theorem q_M_swap_40 {w : ab_Wd} {d n nc ns : Nat} {I : Nat → Nat → Int32} {L : Nat → Nat → Int64} {res : ab_Re} (v1 : Int32) (v2 : Int32) (s0 : Int32) (hc : nc ≤ res.2.2.2.2.2.1) (hs : ns ≤ res.2.2.2.2.2.2)
    (h : ((s0 = 0 → (∃ (r2 : Int32) (I3 : Nat → Nat → Int32), ab_C w d mt_M_fail [.ref mx, .int 1] (I, L, ab_RR, n, nc, ns) (.inl (some (.int r2)), (I3, L, ab_RR, n, nc, ns)) ∧ ab_E w (d + 1) mt_M_swap 78 [.ref mx, .int v1, .int v2, .int s0] [.int r2] (I3, L, ab_RR, n, nc, ns) res)) ∧ (¬ s0 = 0 → ((vp_in ((99 + (5 * ((((I mx_now 2) - 1) - v1) - (((I mx_now 2) - 1) - v1) / 60 * 60))) + v2) 399) ∧ ab_E w (d + 1) mt_M_swap 78 [.ref mx, .int v1, .int v2, .int s0] [.int (I mx_now ((99 + (5 * ((((I mx_now 2) - 1) - v1) - (((I mx_now 2) - 1) - v1) / 60 * 60))) + v2).toNatClampNeg)] (I, L, ab_RR, n, nc, ns) res)))) : ab_E w (d + 1) mt_M_swap 40 [.ref mx, .int v1, .int v2, .null] [.int s0] (I, L, ab_RR, n, nc, ns) res := by
  refine ab_istore_n (i := 3) d_M_swap_40 rfl (by decide) (Or.inr rfl) ?_
  refine ab_iload_n (i := 3) d_M_swap_41 rfl rfl ?_
  refine ab_if_eq (tgt := 73) d_M_swap_42 (by decide) (fun c1 => ?_) (fun c1 => ?_)
  · have h := h.1 c1
    refine ab_aload_n (i := 0) d_M_swap_73 rfl rfl ?_
    refine ab_iconst (v := 1) d_M_swap_74 rfl ?_
    obtain ⟨r2, I3, hC, h⟩ := h
    refine ab_callV (me2 := mt_M_fail) (b := mx) (as := [.int 1]) (st := []) (rv := (some (.int r2))) (M2 := (I3, L, ab_RR, n, nc, ns)) d_M_swap_75 ce_M_fail v_1562 v_1564 v_66 (by decide) rfl (by decide) hC (Nat.le_refl _) (Nat.le_refl _) hc hs (fun j h9 => by cases h9) (fun _ _ => rfl) ?_
    show ab_E w (d + 1) mt_M_swap 78 [.ref mx, .int v1, .int v2, .int s0] [.int r2] (I3, L, ab_RR, n, nc, ns) res
    exact h
  · have h := h.2 c1
    refine ab_aload_n (i := 0) d_M_swap_45 rfl rfl ?_
    refine ab_getR (ci := 11) (k := 4) (j := mx_now) d_M_swap_46 v_1372 rfl (by decide) (by decide) rfl r_mx_4 ?_
    refine ab_bipush (v := 99) d_M_swap_49 rfl ?_
    refine ab_iconst (v := 5) d_M_swap_51 rfl ?_
    refine ab_aload_n (i := 0) d_M_swap_52 rfl rfl ?_
    refine ab_getR (ci := 11) (k := 4) (j := mx_now) d_M_swap_53 v_1372 rfl (by decide) (by decide) rfl r_mx_4 ?_
    refine ab_iconst (v := 2) d_M_swap_56 rfl ?_
    refine ab_iald d_M_swap_57 rfl rfl (by unfold vp_in; decide) ?_
    refine ab_iconst (v := 1) d_M_swap_58 rfl ?_
    refine ab_isub d_M_swap_59 ?_
    refine ab_iload_n (i := 1) d_M_swap_60 rfl rfl ?_
    refine ab_isub d_M_swap_61 ?_
    refine ab_bipush (v := 60) d_M_swap_62 rfl ?_
    refine ab_irem d_M_swap_64 (by decide) ?_
    refine ab_imul d_M_swap_65 ?_
    refine ab_iadd d_M_swap_66 ?_
    refine ab_iload_n (i := 2) d_M_swap_67 rfl rfl ?_
    refine ab_iadd d_M_swap_68 ?_
    have g4 := h.1; have h := h.2
    refine ab_iald d_M_swap_69 rfl rfl g4 ?_
    refine ab_goto (tgt := 78) d_M_swap_70 (by decide) ?_
    exact h
theorem q_M_swap_78 {w : ab_Wd} {d n nc ns : Nat} {I : Nat → Nat → Int32} {L : Nat → Nat → Int64} {res : ab_Re} (v1 : Int32) (v2 : Int32) (v3 : Int32) (s0 : Int32) (hc : nc ≤ res.2.2.2.2.2.1) (hs : ns ≤ res.2.2.2.2.2.2)
    (h : res = (.inl (some (.int s0)), (I, L, ab_RR, n, nc, ns))) : ab_E w (d + 1) mt_M_swap 78 [.ref mx, .int v1, .int v2, .int v3] [.int s0] (I, L, ab_RR, n, nc, ns) res := by
  exact ab_iret (ty := .int) d_M_swap_78 rfl rfl h
theorem d_M_refuse_0 : decode (ab_bc mt_M_refuse) 0 = .ok (.aload_n 0, 1) := by decide +kernel
theorem d_M_refuse_1 : decode (ab_bc mt_M_refuse) 1 = .ok (.getfield 31, 3) := by decide +kernel
theorem d_M_refuse_4 : decode (ab_bc mt_M_refuse) 4 = .ok (.iload_n 1, 1) := by decide +kernel
theorem d_M_refuse_5 : decode (ab_bc mt_M_refuse) 5 = .ok (.dup2, 1) := by decide +kernel
theorem d_M_refuse_6 : decode (ab_bc mt_M_refuse) 6 = .ok (.iaload, 1) := by decide +kernel
theorem d_M_refuse_7 : decode (ab_bc mt_M_refuse) 7 = .ok (.iconst 1, 1) := by decide +kernel
theorem d_M_refuse_8 : decode (ab_bc mt_M_refuse) 8 = .ok (.iadd, 1) := by decide +kernel
theorem d_M_refuse_9 : decode (ab_bc mt_M_refuse) 9 = .ok (.iastore, 1) := by decide +kernel
theorem d_M_refuse_10 : decode (ab_bc mt_M_refuse) 10 = .ok (.iconst (-1), 1) := by decide +kernel
theorem d_M_refuse_11 : decode (ab_bc mt_M_refuse) 11 = .ok (.ireturn, 1) := by decide +kernel
-- CableKeeperModel.refuse(I)I over mx
theorem q_M_refuse_0 {w : ab_Wd} {d n nc ns : Nat} {I : Nat → Nat → Int32} {L : Nat → Nat → Int64} {res : ab_Re} (v1 : Int32) (hc : nc ≤ res.2.2.2.2.2.1) (hs : ns ≤ res.2.2.2.2.2.2)
    (h : (vp_in v1 3) ∧ (vp_in v1 3) ∧ res = (.inl (some (.int (-1))), ((ab_up I mx_status v1.toNatClampNeg ((I mx_status v1.toNatClampNeg) + 1)), L, ab_RR, n, nc, ns))) : ab_E w d mt_M_refuse 0 [.ref mx, .int v1] [] (I, L, ab_RR, n, nc, ns) res := by
  refine ab_aload_n (i := 0) d_M_refuse_0 rfl rfl ?_
  refine ab_getR (ci := 11) (k := 6) (j := mx_status) d_M_refuse_1 v_1374 rfl (by decide) (by decide) rfl r_mx_6 ?_
  refine ab_iload_n (i := 1) d_M_refuse_4 rfl rfl ?_
  refine ab_dup2 d_M_refuse_5 ?_
  have g1 := h.1; have h := h.2
  refine ab_iald d_M_refuse_6 rfl rfl g1 ?_
  refine ab_iconst (v := 1) d_M_refuse_7 rfl ?_
  refine ab_iadd d_M_refuse_8 ?_
  have g2 := h.1; have h := h.2
  refine ab_iast d_M_refuse_9 rfl rfl g2 ?_
  refine ab_iconst (v := (-1)) d_M_refuse_10 rfl ?_
  exact ab_iret (ty := .int) d_M_refuse_11 rfl rfl h
