theorem d_M_tellNear_0 : decode (ab_bc mt_M_tellNear) 0 = .ok (.iconst 0, 1) := by decide +kernel
theorem d_M_tellNear_1 : decode (ab_bc mt_M_tellNear) 1 = .ok (.istore_n 2, 1) := by decide +kernel
theorem d_M_tellNear_2 : decode (ab_bc mt_M_tellNear) 2 = .ok (.iload_n 2, 1) := by decide +kernel
theorem d_M_tellNear_3 : decode (ab_bc mt_M_tellNear) 3 = .ok (.aload_n 0, 1) := by decide +kernel
theorem d_M_tellNear_4 : decode (ab_bc mt_M_tellNear) 4 = .ok (.getfield 21, 3) := by decide +kernel
theorem d_M_tellNear_7 : decode (ab_bc mt_M_tellNear) 7 = .ok (.if_icmp .ge 27, 3) := by decide +kernel
theorem d_M_tellNear_10 : decode (ab_bc mt_M_tellNear) 10 = .ok (.aload_n 0, 1) := by decide +kernel
theorem d_M_tellNear_11 : decode (ab_bc mt_M_tellNear) 11 = .ok (.getfield 58, 3) := by decide +kernel
theorem d_M_tellNear_14 : decode (ab_bc mt_M_tellNear) 14 = .ok (.iload_n 2, 1) := by decide +kernel
theorem d_M_tellNear_15 : decode (ab_bc mt_M_tellNear) 15 = .ok (.iload_n 2, 1) := by decide +kernel
theorem d_M_tellNear_16 : decode (ab_bc mt_M_tellNear) 16 = .ok (.iload_n 1, 1) := by decide +kernel
theorem d_M_tellNear_17 : decode (ab_bc mt_M_tellNear) 17 = .ok (.if_icmp .ne 7, 3) := by decide +kernel
theorem d_M_tellNear_20 : decode (ab_bc mt_M_tellNear) 20 = .ok (.iconst 0, 1) := by decide +kernel
theorem d_M_tellNear_21 : decode (ab_bc mt_M_tellNear) 21 = .ok (.goto 6, 3) := by decide +kernel
theorem d_M_tellNear_24 : decode (ab_bc mt_M_tellNear) 24 = .ok (.ldc_w 330, 3) := by decide +kernel
theorem d_M_tellNear_27 : decode (ab_bc mt_M_tellNear) 27 = .ok (.iastore, 1) := by decide +kernel
theorem d_M_tellNear_28 : decode (ab_bc mt_M_tellNear) 28 = .ok (.iinc 2 1, 3) := by decide +kernel
theorem d_M_tellNear_31 : decode (ab_bc mt_M_tellNear) 31 = .ok (.goto (-29), 3) := by decide +kernel
theorem d_M_tellNear_34 : decode (ab_bc mt_M_tellNear) 34 = .ok (.iconst 0, 1) := by decide +kernel
theorem d_M_tellNear_35 : decode (ab_bc mt_M_tellNear) 35 = .ok (.istore_n 2, 1) := by decide +kernel
theorem d_M_tellNear_36 : decode (ab_bc mt_M_tellNear) 36 = .ok (.iload_n 2, 1) := by decide +kernel
theorem d_M_tellNear_37 : decode (ab_bc mt_M_tellNear) 37 = .ok (.aload_n 0, 1) := by decide +kernel
theorem d_M_tellNear_38 : decode (ab_bc mt_M_tellNear) 38 = .ok (.getfield 21, 3) := by decide +kernel
theorem d_M_tellNear_41 : decode (ab_bc mt_M_tellNear) 41 = .ok (.if_icmp .ge 117, 3) := by decide +kernel
theorem d_M_tellNear_44 : decode (ab_bc mt_M_tellNear) 44 = .ok (.iconst 0, 1) := by decide +kernel
theorem d_M_tellNear_45 : decode (ab_bc mt_M_tellNear) 45 = .ok (.istore_n 3, 1) := by decide +kernel
theorem d_M_tellNear_46 : decode (ab_bc mt_M_tellNear) 46 = .ok (.iload_n 3, 1) := by decide +kernel
theorem d_M_tellNear_47 : decode (ab_bc mt_M_tellNear) 47 = .ok (.aload_n 0, 1) := by decide +kernel
theorem d_M_tellNear_48 : decode (ab_bc mt_M_tellNear) 48 = .ok (.invokevirtual 234, 3) := by decide +kernel
theorem d_M_tellNear_51 : decode (ab_bc mt_M_tellNear) 51 = .ok (.if_icmp .ge 101, 3) := by decide +kernel
theorem d_M_tellNear_54 : decode (ab_bc mt_M_tellNear) 54 = .ok (.aload_n 0, 1) := by decide +kernel
theorem d_M_tellNear_55 : decode (ab_bc mt_M_tellNear) 55 = .ok (.iload_n 3, 1) := by decide +kernel
theorem d_M_tellNear_56 : decode (ab_bc mt_M_tellNear) 56 = .ok (.invokevirtual 262, 3) := by decide +kernel
theorem d_M_tellNear_59 : decode (ab_bc mt_M_tellNear) 59 = .ok (.ifCond .ne 6, 3) := by decide +kernel
theorem d_M_tellNear_62 : decode (ab_bc mt_M_tellNear) 62 = .ok (.goto 84, 3) := by decide +kernel
theorem d_M_tellNear_65 : decode (ab_bc mt_M_tellNear) 65 = .ok (.aload_n 0, 1) := by decide +kernel
theorem d_M_tellNear_66 : decode (ab_bc mt_M_tellNear) 66 = .ok (.getfield 24, 3) := by decide +kernel
theorem d_M_tellNear_69 : decode (ab_bc mt_M_tellNear) 69 = .ok (.iconst 3, 1) := by decide +kernel
theorem d_M_tellNear_70 : decode (ab_bc mt_M_tellNear) 70 = .ok (.iload_n 3, 1) := by decide +kernel
theorem d_M_tellNear_71 : decode (ab_bc mt_M_tellNear) 71 = .ok (.iadd, 1) := by decide +kernel
theorem d_M_tellNear_72 : decode (ab_bc mt_M_tellNear) 72 = .ok (.iaload, 1) := by decide +kernel
theorem d_M_tellNear_73 : decode (ab_bc mt_M_tellNear) 73 = .ok (.istore 4, 2) := by decide +kernel
theorem d_M_tellNear_75 : decode (ab_bc mt_M_tellNear) 75 = .ok (.aload_n 0, 1) := by decide +kernel
theorem d_M_tellNear_76 : decode (ab_bc mt_M_tellNear) 76 = .ok (.getfield 24, 3) := by decide +kernel
theorem d_M_tellNear_79 : decode (ab_bc mt_M_tellNear) 79 = .ok (.bipush 27, 2) := by decide +kernel
theorem d_M_tellNear_81 : decode (ab_bc mt_M_tellNear) 81 = .ok (.iload_n 3, 1) := by decide +kernel
theorem d_M_tellNear_82 : decode (ab_bc mt_M_tellNear) 82 = .ok (.iadd, 1) := by decide +kernel
theorem d_M_tellNear_83 : decode (ab_bc mt_M_tellNear) 83 = .ok (.iaload, 1) := by decide +kernel
theorem d_M_tellNear_84 : decode (ab_bc mt_M_tellNear) 84 = .ok (.istore 5, 2) := by decide +kernel
theorem d_M_tellNear_86 : decode (ab_bc mt_M_tellNear) 86 = .ok (.aload_n 0, 1) := by decide +kernel
theorem d_M_tellNear_87 : decode (ab_bc mt_M_tellNear) 87 = .ok (.getfield 58, 3) := by decide +kernel
theorem d_M_tellNear_90 : decode (ab_bc mt_M_tellNear) 90 = .ok (.iload 4, 2) := by decide +kernel
theorem d_M_tellNear_92 : decode (ab_bc mt_M_tellNear) 92 = .ok (.aload_n 0, 1) := by decide +kernel
theorem d_M_tellNear_93 : decode (ab_bc mt_M_tellNear) 93 = .ok (.getfield 58, 3) := by decide +kernel
theorem d_M_tellNear_96 : decode (ab_bc mt_M_tellNear) 96 = .ok (.iload 4, 2) := by decide +kernel
theorem d_M_tellNear_98 : decode (ab_bc mt_M_tellNear) 98 = .ok (.iaload, 1) := by decide +kernel
theorem d_M_tellNear_99 : decode (ab_bc mt_M_tellNear) 99 = .ok (.aload_n 0, 1) := by decide +kernel
theorem d_M_tellNear_100 : decode (ab_bc mt_M_tellNear) 100 = .ok (.getfield 58, 3) := by decide +kernel
theorem d_M_tellNear_103 : decode (ab_bc mt_M_tellNear) 103 = .ok (.iload 5, 2) := by decide +kernel
theorem d_M_tellNear_105 : decode (ab_bc mt_M_tellNear) 105 = .ok (.iaload, 1) := by decide +kernel
theorem d_M_tellNear_106 : decode (ab_bc mt_M_tellNear) 106 = .ok (.aload_n 0, 1) := by decide +kernel
theorem d_M_tellNear_107 : decode (ab_bc mt_M_tellNear) 107 = .ok (.iload_n 3, 1) := by decide +kernel
theorem d_M_tellNear_108 : decode (ab_bc mt_M_tellNear) 108 = .ok (.invokevirtual 222, 3) := by decide +kernel
theorem d_M_tellNear_111 : decode (ab_bc mt_M_tellNear) 111 = .ok (.iadd, 1) := by decide +kernel
theorem d_M_tellNear_112 : decode (ab_bc mt_M_tellNear) 112 = .ok (.invokestatic 141, 3) := by decide +kernel
theorem d_M_tellNear_115 : decode (ab_bc mt_M_tellNear) 115 = .ok (.iastore, 1) := by decide +kernel
theorem d_M_tellNear_116 : decode (ab_bc mt_M_tellNear) 116 = .ok (.aload_n 0, 1) := by decide +kernel
theorem d_M_tellNear_117 : decode (ab_bc mt_M_tellNear) 117 = .ok (.getfield 58, 3) := by decide +kernel
theorem d_M_tellNear_120 : decode (ab_bc mt_M_tellNear) 120 = .ok (.iload 5, 2) := by decide +kernel
theorem d_M_tellNear_122 : decode (ab_bc mt_M_tellNear) 122 = .ok (.aload_n 0, 1) := by decide +kernel
theorem d_M_tellNear_123 : decode (ab_bc mt_M_tellNear) 123 = .ok (.getfield 58, 3) := by decide +kernel
theorem d_M_tellNear_126 : decode (ab_bc mt_M_tellNear) 126 = .ok (.iload 5, 2) := by decide +kernel
theorem d_M_tellNear_128 : decode (ab_bc mt_M_tellNear) 128 = .ok (.iaload, 1) := by decide +kernel
theorem d_M_tellNear_129 : decode (ab_bc mt_M_tellNear) 129 = .ok (.aload_n 0, 1) := by decide +kernel
theorem d_M_tellNear_130 : decode (ab_bc mt_M_tellNear) 130 = .ok (.getfield 58, 3) := by decide +kernel
theorem d_M_tellNear_133 : decode (ab_bc mt_M_tellNear) 133 = .ok (.iload 4, 2) := by decide +kernel
theorem d_M_tellNear_135 : decode (ab_bc mt_M_tellNear) 135 = .ok (.iaload, 1) := by decide +kernel
theorem d_M_tellNear_136 : decode (ab_bc mt_M_tellNear) 136 = .ok (.aload_n 0, 1) := by decide +kernel
theorem d_M_tellNear_137 : decode (ab_bc mt_M_tellNear) 137 = .ok (.iload_n 3, 1) := by decide +kernel
theorem d_M_tellNear_138 : decode (ab_bc mt_M_tellNear) 138 = .ok (.invokevirtual 222, 3) := by decide +kernel
theorem d_M_tellNear_141 : decode (ab_bc mt_M_tellNear) 141 = .ok (.iadd, 1) := by decide +kernel
theorem d_M_tellNear_142 : decode (ab_bc mt_M_tellNear) 142 = .ok (.invokestatic 141, 3) := by decide +kernel
theorem d_M_tellNear_145 : decode (ab_bc mt_M_tellNear) 145 = .ok (.iastore, 1) := by decide +kernel
theorem d_M_tellNear_146 : decode (ab_bc mt_M_tellNear) 146 = .ok (.iinc 3 1, 3) := by decide +kernel
theorem d_M_tellNear_149 : decode (ab_bc mt_M_tellNear) 149 = .ok (.goto (-103), 3) := by decide +kernel
theorem d_M_tellNear_152 : decode (ab_bc mt_M_tellNear) 152 = .ok (.iinc 2 1, 3) := by decide +kernel
theorem d_M_tellNear_155 : decode (ab_bc mt_M_tellNear) 155 = .ok (.goto (-119), 3) := by decide +kernel
theorem d_M_tellNear_158 : decode (ab_bc mt_M_tellNear) 158 = .ok (.return_, 1) := by decide +kernel
-- CableKeeperModel.tellNear(I)V over mx
theorem q_M_tellNear_0 {w : ab_Wd} {d n nc ns : Nat} {I : Nat → Nat → Int32} {L : Nat → Nat → Int64} {res : ab_Re} (v1 : Int32) (hc : nc ≤ res.2.2.2.2.2.1) (hs : ns ≤ res.2.2.2.2.2.2)
    (h : ab_E w (d + 1) mt_M_tellNear 2 [.ref mx, .int v1, .int 0, .null, .null, .null] [] (I, L, ab_RR, n, nc, ns) res) : ab_E w (d + 1) mt_M_tellNear 0 [.ref mx, .int v1, .null, .null, .null, .null] [] (I, L, ab_RR, n, nc, ns) res := by
  refine ab_iconst (v := 0) d_M_tellNear_0 rfl ?_
  refine ab_istore_n (i := 2) d_M_tellNear_1 rfl (by decide) (Or.inr rfl) ?_
  exact h
theorem q_M_tellNear_2 {w : ab_Wd} {d n nc ns : Nat} {I : Nat → Nat → Int32} {L : Nat → Nat → Int64} {res : ab_Re} (v1 : Int32) (v2 : Int32) (hc : nc ≤ res.2.2.2.2.2.1) (hs : ns ≤ res.2.2.2.2.2.2)
    (h : (((I mx 2) ≤ v2 → (ab_E w (d + 1) mt_M_tellNear 36 [.ref mx, .int v1, .int 0, .null, .null, .null] [] (I, L, ab_RR, n, nc, ns) res)) ∧ (¬ (I mx 2) ≤ v2 → ((¬ v2 = v1 → (ab_E w (d + 1) mt_M_tellNear 27 [.ref mx, .int v1, .int v2, .null, .null, .null] [.int 1000000, .int v2, .ref mx_near] (I, L, ab_RR, n, nc, ns) res)) ∧ (v2 = v1 → (ab_E w (d + 1) mt_M_tellNear 27 [.ref mx, .int v1, .int v2, .null, .null, .null] [.int 0, .int v2, .ref mx_near] (I, L, ab_RR, n, nc, ns) res)))))) : ab_E w (d + 1) mt_M_tellNear 2 [.ref mx, .int v1, .int v2, .null, .null, .null] [] (I, L, ab_RR, n, nc, ns) res := by
  refine ab_iload_n (i := 2) d_M_tellNear_2 rfl rfl ?_
  refine ab_aload_n (i := 0) d_M_tellNear_3 rfl rfl ?_
  refine ab_getI (ci := 11) (k := 2) d_M_tellNear_4 v_1370 rfl (by decide) (by decide) rfl ?_
  refine ab_icmp_ge (tgt := 34) d_M_tellNear_7 (by decide) (fun c1 => ?_) (fun c1 => ?_)
  · have h := h.1 c1
    refine ab_iconst (v := 0) d_M_tellNear_34 rfl ?_
    refine ab_istore_n (i := 2) d_M_tellNear_35 rfl (by decide) (Or.inr rfl) ?_
    exact h
  · have h := h.2 c1
    refine ab_aload_n (i := 0) d_M_tellNear_10 rfl rfl ?_
    refine ab_getR (ci := 11) (k := 28) (j := mx_near) d_M_tellNear_11 v_1396 rfl (by decide) (by decide) rfl r_mx_28 ?_
    refine ab_iload_n (i := 2) d_M_tellNear_14 rfl rfl ?_
    refine ab_iload_n (i := 2) d_M_tellNear_15 rfl rfl ?_
    refine ab_iload_n (i := 1) d_M_tellNear_16 rfl rfl ?_
    refine ab_icmp_ne (tgt := 24) d_M_tellNear_17 (by decide) (fun c2 => ?_) (fun c2 => ?_)
    · have h := h.1 c2
      refine ab_ldcw (v := 1000000) d_M_tellNear_24 v_1743 ?_
      exact h
    · have h := h.2 c2
      refine ab_iconst (v := 0) d_M_tellNear_20 rfl ?_
      refine ab_goto (tgt := 27) d_M_tellNear_21 (by decide) ?_
      exact h
theorem q_M_tellNear_27 {w : ab_Wd} {d n nc ns : Nat} {I : Nat → Nat → Int32} {L : Nat → Nat → Int64} {res : ab_Re} (v1 : Int32) (v2 : Int32) (s1 : Int32) (s2 : Int32) (hc : nc ≤ res.2.2.2.2.2.1) (hs : ns ≤ res.2.2.2.2.2.2)
    (h : (vp_in s1 10) ∧ ab_E w (d + 1) mt_M_tellNear 2 [.ref mx, .int v1, .int (v2 + 1), .null, .null, .null] [] ((ab_up I mx_near s1.toNatClampNeg s2), L, ab_RR, n, nc, ns) res) : ab_E w (d + 1) mt_M_tellNear 27 [.ref mx, .int v1, .int v2, .null, .null, .null] [.int s2, .int s1, .ref mx_near] (I, L, ab_RR, n, nc, ns) res := by
  have g1 := h.1; have h := h.2
  refine ab_iast d_M_tellNear_27 rfl rfl g1 ?_
  refine ab_iinc (i := 2) (v := (v2 + 1)) d_M_tellNear_28 rfl rfl (by decide) (Or.inr rfl) ?_
  refine ab_goto (tgt := 2) d_M_tellNear_31 (by decide) ?_
  exact h
theorem q_M_tellNear_36 {w : ab_Wd} {d n nc ns : Nat} {I : Nat → Nat → Int32} {L : Nat → Nat → Int64} {res : ab_Re} (v1 : Int32) (v2 : Int32) (hc : nc ≤ res.2.2.2.2.2.1) (hs : ns ≤ res.2.2.2.2.2.2)
    (h : (((I mx 2) ≤ v2 → (res = (.inl none, (I, L, ab_RR, n, nc, ns)))) ∧ (¬ (I mx 2) ≤ v2 → (ab_E w (d + 1) mt_M_tellNear 46 [.ref mx, .int v1, .int v2, .int 0, .null, .null] [] (I, L, ab_RR, n, nc, ns) res)))) : ab_E w (d + 1) mt_M_tellNear 36 [.ref mx, .int v1, .int v2, .null, .null, .null] [] (I, L, ab_RR, n, nc, ns) res := by
  refine ab_iload_n (i := 2) d_M_tellNear_36 rfl rfl ?_
  refine ab_aload_n (i := 0) d_M_tellNear_37 rfl rfl ?_
  refine ab_getI (ci := 11) (k := 2) d_M_tellNear_38 v_1370 rfl (by decide) (by decide) rfl ?_
  refine ab_icmp_ge (tgt := 158) d_M_tellNear_41 (by decide) (fun c1 => ?_) (fun c1 => ?_)
  · have h := h.1 c1
    exact ab_vret d_M_tellNear_158 rfl h
  · have h := h.2 c1
    refine ab_iconst (v := 0) d_M_tellNear_44 rfl ?_
    refine ab_istore_n (i := 3) d_M_tellNear_45 rfl (by decide) (Or.inr rfl) ?_
    exact h
theorem q_M_tellNear_46 {w : ab_Wd} {d n nc ns : Nat} {I : Nat → Nat → Int32} {L : Nat → Nat → Int64} {res : ab_Re} (v1 : Int32) (v2 : Int32) (v3 : Int32) (hc : nc ≤ res.2.2.2.2.2.1) (hs : ns ≤ res.2.2.2.2.2.2)
    (h : ∃ (r1 : Int32), ab_C w d mt_M_many [.ref mx] (I, L, ab_RR, n, nc, ns) (.inl (some (.int r1)), (I, L, ab_RR, n, nc, ns)) ∧ ((r1 ≤ v3 → (ab_E w (d + 1) mt_M_tellNear 36 [.ref mx, .int v1, .int (v2 + 1), .null, .null, .null] [] (I, L, ab_RR, n, nc, ns) res)) ∧ (¬ r1 ≤ v3 → (∃ (r3 : Int32), ab_C w d mt_M_isSound [.ref mx, .int v3] (I, L, ab_RR, n, nc, ns) (.inl (some (.int r3)), (I, L, ab_RR, n, nc, ns)) ∧ ((¬ r3 = 0 → ((vp_in (3 + v3) 399) ∧ (vp_in (27 + v3) 399) ∧ (vp_in (I mx_now (3 + v3).toNatClampNeg) 10) ∧ (vp_in (I mx_now (27 + v3).toNatClampNeg) 10) ∧ ∃ (r9 : Int32), ab_C w d mt_M_priceOf [.ref mx, .int v3] (I, L, ab_RR, n, nc, ns) (.inl (some (.int r9)), (I, L, ab_RR, n, nc, ns)) ∧ ∃ (r10 : Int32), ab_C w d mt_M_priceOf [.ref mx, .int v3] ((ab_up I mx_near (I mx_now (3 + v3).toNatClampNeg).toNatClampNeg (ab_min32 (I mx_near (I mx_now (3 + v3).toNatClampNeg).toNatClampNeg) ((I mx_near (I mx_now (27 + v3).toNatClampNeg).toNatClampNeg) + r9))), L, ab_RR, n, nc, ns) (.inl (some (.int r10)), ((ab_up I mx_near (I mx_now (3 + v3).toNatClampNeg).toNatClampNeg (ab_min32 (I mx_near (I mx_now (3 + v3).toNatClampNeg).toNatClampNeg) ((I mx_near (I mx_now (27 + v3).toNatClampNeg).toNatClampNeg) + r9))), L, ab_RR, n, nc, ns)) ∧ ab_E w (d + 1) mt_M_tellNear 146 [.ref mx, .int v1, .int v2, .int v3, .null, .null] [] ((ab_up (ab_up I mx_near (I mx_now (3 + v3).toNatClampNeg).toNatClampNeg (ab_min32 (I mx_near (I mx_now (3 + v3).toNatClampNeg).toNatClampNeg) ((I mx_near (I mx_now (27 + v3).toNatClampNeg).toNatClampNeg) + r9))) mx_near (I mx_now (27 + v3).toNatClampNeg).toNatClampNeg (ab_min32 ((ab_up I mx_near (I mx_now (3 + v3).toNatClampNeg).toNatClampNeg (ab_min32 (I mx_near (I mx_now (3 + v3).toNatClampNeg).toNatClampNeg) ((I mx_near (I mx_now (27 + v3).toNatClampNeg).toNatClampNeg) + r9))) mx_near (I mx_now (27 + v3).toNatClampNeg).toNatClampNeg) (((ab_up I mx_near (I mx_now (3 + v3).toNatClampNeg).toNatClampNeg (ab_min32 (I mx_near (I mx_now (3 + v3).toNatClampNeg).toNatClampNeg) ((I mx_near (I mx_now (27 + v3).toNatClampNeg).toNatClampNeg) + r9))) mx_near (I mx_now (3 + v3).toNatClampNeg).toNatClampNeg) + r10))), L, ab_RR, n, nc, ns) res)) ∧ (r3 = 0 → (ab_E w (d + 1) mt_M_tellNear 146 [.ref mx, .int v1, .int v2, .int v3, .null, .null] [] (I, L, ab_RR, n, nc, ns) res))))))) : ab_E w (d + 1) mt_M_tellNear 46 [.ref mx, .int v1, .int v2, .int v3, .null, .null] [] (I, L, ab_RR, n, nc, ns) res := by
  refine ab_iload_n (i := 3) d_M_tellNear_46 rfl rfl ?_
  refine ab_aload_n (i := 0) d_M_tellNear_47 rfl rfl ?_
  obtain ⟨r1, hC, h⟩ := h
  refine ab_callV (me2 := mt_M_many) (b := mx) (as := []) (st := [.int v3]) (rv := (some (.int r1))) (M2 := (I, L, ab_RR, n, nc, ns)) d_M_tellNear_48 ce_M_many v_1635 v_1637 v_79 (by decide) rfl (Nat.le_of_ble_eq_true rfl) hC (Nat.le_refl _) (Nat.le_refl _) hc hs (fun j h9 => by cases h9) (fun _ _ => rfl) ?_
  show ab_E w (d + 1) mt_M_tellNear 51 [.ref mx, .int v1, .int v2, .int v3, .null, .null] [.int r1, .int v3] (I, L, ab_RR, n, nc, ns) res
  refine ab_icmp_ge (tgt := 152) d_M_tellNear_51 (by decide) (fun c2 => ?_) (fun c2 => ?_)
  · have h := h.1 c2
    refine ab_iinc (i := 2) (v := (v2 + 1)) d_M_tellNear_152 rfl rfl (by decide) (Or.inr rfl) ?_
    refine ab_goto (tgt := 36) d_M_tellNear_155 (by decide) ?_
    refine ab_drop 3 ?_
    exact h
  · have h := h.2 c2
    refine ab_aload_n (i := 0) d_M_tellNear_54 rfl rfl ?_
    refine ab_iload_n (i := 3) d_M_tellNear_55 rfl rfl ?_
    obtain ⟨r3, hC, h⟩ := h
    refine ab_callV (me2 := mt_M_isSound) (b := mx) (as := [.int v3]) (st := []) (rv := (some (.int r3))) (M2 := (I, L, ab_RR, n, nc, ns)) d_M_tellNear_56 ce_M_isSound v_1679 v_1681 v_89 (by decide) rfl (Nat.le_of_ble_eq_true rfl) hC (Nat.le_refl _) (Nat.le_refl _) hc hs (fun j h9 => by cases h9) (fun _ _ => rfl) ?_
    show ab_E w (d + 1) mt_M_tellNear 59 [.ref mx, .int v1, .int v2, .int v3, .null, .null] [.int r3] (I, L, ab_RR, n, nc, ns) res
    refine ab_if_ne (tgt := 65) d_M_tellNear_59 (by decide) (fun c4 => ?_) (fun c4 => ?_)
    · have h := h.1 c4
      refine ab_aload_n (i := 0) d_M_tellNear_65 rfl rfl ?_
      refine ab_getR (ci := 11) (k := 4) (j := mx_now) d_M_tellNear_66 v_1372 rfl (by decide) (by decide) rfl r_mx_4 ?_
      refine ab_iconst (v := 3) d_M_tellNear_69 rfl ?_
      refine ab_iload_n (i := 3) d_M_tellNear_70 rfl rfl ?_
      refine ab_iadd d_M_tellNear_71 ?_
      have g5 := h.1; have h := h.2
      refine ab_iald d_M_tellNear_72 rfl rfl g5 ?_
      refine ab_istore (i := 4) d_M_tellNear_73 (by decide) (Or.inr rfl) ?_
      refine ab_aload_n (i := 0) d_M_tellNear_75 rfl rfl ?_
      refine ab_getR (ci := 11) (k := 4) (j := mx_now) d_M_tellNear_76 v_1372 rfl (by decide) (by decide) rfl r_mx_4 ?_
      refine ab_bipush (v := 27) d_M_tellNear_79 rfl ?_
      refine ab_iload_n (i := 3) d_M_tellNear_81 rfl rfl ?_
      refine ab_iadd d_M_tellNear_82 ?_
      have g6 := h.1; have h := h.2
      refine ab_iald d_M_tellNear_83 rfl rfl g6 ?_
      refine ab_istore (i := 5) d_M_tellNear_84 (by decide) (Or.inr rfl) ?_
      refine ab_aload_n (i := 0) d_M_tellNear_86 rfl rfl ?_
      refine ab_getR (ci := 11) (k := 28) (j := mx_near) d_M_tellNear_87 v_1396 rfl (by decide) (by decide) rfl r_mx_28 ?_
      refine ab_iload (i := 4) d_M_tellNear_90 rfl ?_
      refine ab_aload_n (i := 0) d_M_tellNear_92 rfl rfl ?_
      refine ab_getR (ci := 11) (k := 28) (j := mx_near) d_M_tellNear_93 v_1396 rfl (by decide) (by decide) rfl r_mx_28 ?_
      refine ab_iload (i := 4) d_M_tellNear_96 rfl ?_
      have g7 := h.1; have h := h.2
      refine ab_iald d_M_tellNear_98 rfl rfl g7 ?_
      refine ab_aload_n (i := 0) d_M_tellNear_99 rfl rfl ?_
      refine ab_getR (ci := 11) (k := 28) (j := mx_near) d_M_tellNear_100 v_1396 rfl (by decide) (by decide) rfl r_mx_28 ?_
      refine ab_iload (i := 5) d_M_tellNear_103 rfl ?_
      have g8 := h.1; have h := h.2
      refine ab_iald d_M_tellNear_105 rfl rfl g8 ?_
      refine ab_aload_n (i := 0) d_M_tellNear_106 rfl rfl ?_
      refine ab_iload_n (i := 3) d_M_tellNear_107 rfl rfl ?_
      obtain ⟨r9, hC, h⟩ := h
      refine ab_callV (me2 := mt_M_priceOf) (b := mx) (as := [.int v3]) (st := [.int (I mx_near (I mx_now (27 + v3).toNatClampNeg).toNatClampNeg), .int (I mx_near (I mx_now (3 + v3).toNatClampNeg).toNatClampNeg), .int (I mx_now (3 + v3).toNatClampNeg), .ref mx_near]) (rv := (some (.int r9))) (M2 := (I, L, ab_RR, n, nc, ns)) d_M_tellNear_108 ce_M_priceOf v_1654 v_1656 v_83 (by decide) rfl (Nat.le_of_ble_eq_true rfl) hC (Nat.le_refl _) (Nat.le_refl _) hc hs (fun j h9 => by cases h9) (fun _ _ => rfl) ?_
      show ab_E w (d + 1) mt_M_tellNear 111 [.ref mx, .int v1, .int v2, .int v3, .int (I mx_now (3 + v3).toNatClampNeg), .int (I mx_now (27 + v3).toNatClampNeg)] [.int r9, .int (I mx_near (I mx_now (27 + v3).toNatClampNeg).toNatClampNeg), .int (I mx_near (I mx_now (3 + v3).toNatClampNeg).toNatClampNeg), .int (I mx_now (3 + v3).toNatClampNeg), .ref mx_near] (I, L, ab_RR, n, nc, ns) res
      refine ab_iadd d_M_tellNear_111 ?_
      refine ab_min d_M_tellNear_112 v_1581 v_448 v_150 v_449 (Nat.succ_le_succ (Nat.zero_le _)) (Nat.le_of_ble_eq_true rfl) hc hs ?_
      refine ab_iast d_M_tellNear_115 rfl rfl g7 ?_
      refine ab_aload_n (i := 0) d_M_tellNear_116 rfl rfl ?_
      refine ab_getR (ci := 11) (k := 28) (j := mx_near) d_M_tellNear_117 v_1396 rfl (by decide) (by decide) rfl r_mx_28 ?_
      refine ab_iload (i := 5) d_M_tellNear_120 rfl ?_
      refine ab_aload_n (i := 0) d_M_tellNear_122 rfl rfl ?_
      refine ab_getR (ci := 11) (k := 28) (j := mx_near) d_M_tellNear_123 v_1396 rfl (by decide) (by decide) rfl r_mx_28 ?_
      refine ab_iload (i := 5) d_M_tellNear_126 rfl ?_
      refine ab_iald d_M_tellNear_128 rfl rfl g8 ?_
      refine ab_aload_n (i := 0) d_M_tellNear_129 rfl rfl ?_
      refine ab_getR (ci := 11) (k := 28) (j := mx_near) d_M_tellNear_130 v_1396 rfl (by decide) (by decide) rfl r_mx_28 ?_
      refine ab_iload (i := 4) d_M_tellNear_133 rfl ?_
      refine ab_iald d_M_tellNear_135 rfl rfl g7 ?_
      refine ab_aload_n (i := 0) d_M_tellNear_136 rfl rfl ?_
      refine ab_iload_n (i := 3) d_M_tellNear_137 rfl rfl ?_
      obtain ⟨r10, hC, h⟩ := h
      refine ab_callV (me2 := mt_M_priceOf) (b := mx) (as := [.int v3]) (st := [.int ((ab_up I mx_near (I mx_now (3 + v3).toNatClampNeg).toNatClampNeg (ab_min32 (I mx_near (I mx_now (3 + v3).toNatClampNeg).toNatClampNeg) ((I mx_near (I mx_now (27 + v3).toNatClampNeg).toNatClampNeg) + r9))) mx_near (I mx_now (3 + v3).toNatClampNeg).toNatClampNeg), .int ((ab_up I mx_near (I mx_now (3 + v3).toNatClampNeg).toNatClampNeg (ab_min32 (I mx_near (I mx_now (3 + v3).toNatClampNeg).toNatClampNeg) ((I mx_near (I mx_now (27 + v3).toNatClampNeg).toNatClampNeg) + r9))) mx_near (I mx_now (27 + v3).toNatClampNeg).toNatClampNeg), .int (I mx_now (27 + v3).toNatClampNeg), .ref mx_near]) (rv := (some (.int r10))) (M2 := ((ab_up I mx_near (I mx_now (3 + v3).toNatClampNeg).toNatClampNeg (ab_min32 (I mx_near (I mx_now (3 + v3).toNatClampNeg).toNatClampNeg) ((I mx_near (I mx_now (27 + v3).toNatClampNeg).toNatClampNeg) + r9))), L, ab_RR, n, nc, ns)) d_M_tellNear_138 ce_M_priceOf v_1654 v_1656 v_83 (by decide) rfl (Nat.le_of_ble_eq_true rfl) hC (Nat.le_refl _) (Nat.le_refl _) hc hs (fun j h9 => by cases h9) (fun _ _ => rfl) ?_
      show ab_E w (d + 1) mt_M_tellNear 141 [.ref mx, .int v1, .int v2, .int v3, .int (I mx_now (3 + v3).toNatClampNeg), .int (I mx_now (27 + v3).toNatClampNeg)] [.int r10, .int ((ab_up I mx_near (I mx_now (3 + v3).toNatClampNeg).toNatClampNeg (ab_min32 (I mx_near (I mx_now (3 + v3).toNatClampNeg).toNatClampNeg) ((I mx_near (I mx_now (27 + v3).toNatClampNeg).toNatClampNeg) + r9))) mx_near (I mx_now (3 + v3).toNatClampNeg).toNatClampNeg), .int ((ab_up I mx_near (I mx_now (3 + v3).toNatClampNeg).toNatClampNeg (ab_min32 (I mx_near (I mx_now (3 + v3).toNatClampNeg).toNatClampNeg) ((I mx_near (I mx_now (27 + v3).toNatClampNeg).toNatClampNeg) + r9))) mx_near (I mx_now (27 + v3).toNatClampNeg).toNatClampNeg), .int (I mx_now (27 + v3).toNatClampNeg), .ref mx_near] ((ab_up I mx_near (I mx_now (3 + v3).toNatClampNeg).toNatClampNeg (ab_min32 (I mx_near (I mx_now (3 + v3).toNatClampNeg).toNatClampNeg) ((I mx_near (I mx_now (27 + v3).toNatClampNeg).toNatClampNeg) + r9))), L, ab_RR, n, nc, ns) res
      refine ab_iadd d_M_tellNear_141 ?_
      refine ab_min d_M_tellNear_142 v_1581 v_448 v_150 v_449 (Nat.succ_le_succ (Nat.zero_le _)) (Nat.le_of_ble_eq_true rfl) hc hs ?_
      refine ab_iast d_M_tellNear_145 rfl rfl g8 ?_
      refine ab_drop 4 ?_
      refine ab_drop 5 ?_
      exact h
    · have h := h.2 c4
      refine ab_goto (tgt := 146) d_M_tellNear_62 (by decide) ?_
      exact h
theorem q_M_tellNear_146 {w : ab_Wd} {d n nc ns : Nat} {I : Nat → Nat → Int32} {L : Nat → Nat → Int64} {res : ab_Re} (v1 : Int32) (v2 : Int32) (v3 : Int32) (hc : nc ≤ res.2.2.2.2.2.1) (hs : ns ≤ res.2.2.2.2.2.2)
    (h : ab_E w (d + 1) mt_M_tellNear 46 [.ref mx, .int v1, .int v2, .int (v3 + 1), .null, .null] [] (I, L, ab_RR, n, nc, ns) res) : ab_E w (d + 1) mt_M_tellNear 146 [.ref mx, .int v1, .int v2, .int v3, .null, .null] [] (I, L, ab_RR, n, nc, ns) res := by
  refine ab_iinc (i := 3) (v := (v3 + 1)) d_M_tellNear_146 rfl rfl (by decide) (Or.inr rfl) ?_
  refine ab_goto (tgt := 46) d_M_tellNear_149 (by decide) ?_
  exact h
theorem d_M_shortOf_0 : decode (ab_bc mt_M_shortOf) 0 = .ok (.aload_n 0, 1) := by decide +kernel
theorem d_M_shortOf_1 : decode (ab_bc mt_M_shortOf) 1 = .ok (.iload_n 1, 1) := by decide +kernel
theorem d_M_shortOf_2 : decode (ab_bc mt_M_shortOf) 2 = .ok (.invokevirtual 331, 3) := by decide +kernel
theorem d_M_shortOf_5 : decode (ab_bc mt_M_shortOf) 5 = .ok (.aload_n 0, 1) := by decide +kernel
theorem d_M_shortOf_6 : decode (ab_bc mt_M_shortOf) 6 = .ok (.getfield 58, 3) := by decide +kernel
theorem d_M_shortOf_9 : decode (ab_bc mt_M_shortOf) 9 = .ok (.iload_n 2, 1) := by decide +kernel
theorem d_M_shortOf_10 : decode (ab_bc mt_M_shortOf) 10 = .ok (.iaload, 1) := by decide +kernel
theorem d_M_shortOf_11 : decode (ab_bc mt_M_shortOf) 11 = .ok (.ldc_w 330, 3) := by decide +kernel
theorem d_M_shortOf_14 : decode (ab_bc mt_M_shortOf) 14 = .ok (.if_icmp .lt 7, 3) := by decide +kernel
theorem d_M_shortOf_17 : decode (ab_bc mt_M_shortOf) 17 = .ok (.iconst (-1), 1) := by decide +kernel
theorem d_M_shortOf_18 : decode (ab_bc mt_M_shortOf) 18 = .ok (.goto 9, 3) := by decide +kernel
theorem d_M_shortOf_21 : decode (ab_bc mt_M_shortOf) 21 = .ok (.aload_n 0, 1) := by decide +kernel
theorem d_M_shortOf_22 : decode (ab_bc mt_M_shortOf) 22 = .ok (.getfield 58, 3) := by decide +kernel
theorem d_M_shortOf_25 : decode (ab_bc mt_M_shortOf) 25 = .ok (.iload_n 2, 1) := by decide +kernel
theorem d_M_shortOf_26 : decode (ab_bc mt_M_shortOf) 26 = .ok (.iaload, 1) := by decide +kernel
theorem d_M_shortOf_27 : decode (ab_bc mt_M_shortOf) 27 = .ok (.ireturn, 1) := by decide +kernel
-- CableKeeperModel.shortOf(II)I over mx
theorem q_M_shortOf_0 {w : ab_Wd} {d n nc ns : Nat} {I : Nat → Nat → Int32} {L : Nat → Nat → Int64} {res : ab_Re} (v1 : Int32) (v2 : Int32) (hc : nc ≤ res.2.2.2.2.2.1) (hs : ns ≤ res.2.2.2.2.2.2)
    (h : ∃ (I2 : Nat → Nat → Int32), ab_C w d mt_M_tellNear [.ref mx, .int v1] (I, L, ab_RR, n, nc, ns) (.inl none, (I2, L, ab_RR, n, nc, ns)) ∧ (vp_in v2 10) ∧ (((I2 mx_near v2.toNatClampNeg) < 1000000 → (ab_E w (d + 1) mt_M_shortOf 27 [.ref mx, .int v1, .int v2] [.int (I2 mx_near v2.toNatClampNeg)] (I2, L, ab_RR, n, nc, ns) res)) ∧ (¬ (I2 mx_near v2.toNatClampNeg) < 1000000 → (ab_E w (d + 1) mt_M_shortOf 27 [.ref mx, .int v1, .int v2] [.int (-1)] (I2, L, ab_RR, n, nc, ns) res)))) : ab_E w (d + 1) mt_M_shortOf 0 [.ref mx, .int v1, .int v2] [] (I, L, ab_RR, n, nc, ns) res := by
  refine ab_aload_n (i := 0) d_M_shortOf_0 rfl rfl ?_
  refine ab_iload_n (i := 1) d_M_shortOf_1 rfl rfl ?_
  obtain ⟨I2, hC, h⟩ := h
  refine ab_callV (me2 := mt_M_tellNear) (b := mx) (as := [.int v1]) (st := []) (rv := none) (M2 := (I2, L, ab_RR, n, nc, ns)) d_M_shortOf_2 ce_M_tellNear v_1739 v_1741 v_104 (by decide) rfl (Nat.le_of_ble_eq_true rfl) hC (Nat.le_refl _) (Nat.le_refl _) hc hs (fun j h9 => by cases h9) (fun _ _ => rfl) ?_
  show ab_E w (d + 1) mt_M_shortOf 5 [.ref mx, .int v1, .int v2] [] (I2, L, ab_RR, n, nc, ns) res
  refine ab_aload_n (i := 0) d_M_shortOf_5 rfl rfl ?_
  refine ab_getR (ci := 11) (k := 28) (j := mx_near) d_M_shortOf_6 v_1396 rfl (by decide) (by decide) rfl r_mx_28 ?_
  refine ab_iload_n (i := 2) d_M_shortOf_9 rfl rfl ?_
  have g3 := h.1; have h := h.2
  refine ab_iald d_M_shortOf_10 rfl rfl g3 ?_
  refine ab_ldcw (v := 1000000) d_M_shortOf_11 v_1743 ?_
  refine ab_icmp_lt (tgt := 21) d_M_shortOf_14 (by decide) (fun c4 => ?_) (fun c4 => ?_)
  · have h := h.1 c4
    refine ab_aload_n (i := 0) d_M_shortOf_21 rfl rfl ?_
    refine ab_getR (ci := 11) (k := 28) (j := mx_near) d_M_shortOf_22 v_1396 rfl (by decide) (by decide) rfl r_mx_28 ?_
    refine ab_iload_n (i := 2) d_M_shortOf_25 rfl rfl ?_
    refine ab_iald d_M_shortOf_26 rfl rfl g3 ?_
    exact h
  · have h := h.2 c4
    refine ab_iconst (v := (-1)) d_M_shortOf_17 rfl ?_
    refine ab_goto (tgt := 27) d_M_shortOf_18 (by decide) ?_
    exact h
theorem q_M_shortOf_27 {w : ab_Wd} {d n nc ns : Nat} {I : Nat → Nat → Int32} {L : Nat → Nat → Int64} {res : ab_Re} (v1 : Int32) (v2 : Int32) (s0 : Int32) (hc : nc ≤ res.2.2.2.2.2.1) (hs : ns ≤ res.2.2.2.2.2.2)
    (h : res = (.inl (some (.int s0)), (I, L, ab_RR, n, nc, ns))) : ab_E w (d + 1) mt_M_shortOf 27 [.ref mx, .int v1, .int v2] [.int s0] (I, L, ab_RR, n, nc, ns) res := by
  exact ab_iret (ty := .int) d_M_shortOf_27 rfl rfl h
theorem d_M_detours_0 : decode (ab_bc mt_M_detours) 0 = .ok (.aload_n 0, 1) := by decide +kernel
theorem d_M_detours_1 : decode (ab_bc mt_M_detours) 1 = .ok (.invokevirtual 251, 3) := by decide +kernel
theorem d_M_detours_4 : decode (ab_bc mt_M_detours) 4 = .ok (.istore_n 1, 1) := by decide +kernel
theorem d_M_detours_5 : decode (ab_bc mt_M_detours) 5 = .ok (.iconst 0, 1) := by decide +kernel
theorem d_M_detours_6 : decode (ab_bc mt_M_detours) 6 = .ok (.istore_n 2, 1) := by decide +kernel
theorem d_M_detours_7 : decode (ab_bc mt_M_detours) 7 = .ok (.iconst 0, 1) := by decide +kernel
theorem d_M_detours_8 : decode (ab_bc mt_M_detours) 8 = .ok (.istore_n 3, 1) := by decide +kernel
theorem d_M_detours_9 : decode (ab_bc mt_M_detours) 9 = .ok (.iload_n 3, 1) := by decide +kernel
theorem d_M_detours_10 : decode (ab_bc mt_M_detours) 10 = .ok (.aload_n 0, 1) := by decide +kernel
theorem d_M_detours_11 : decode (ab_bc mt_M_detours) 11 = .ok (.getfield 21, 3) := by decide +kernel
theorem d_M_detours_14 : decode (ab_bc mt_M_detours) 14 = .ok (.if_icmp .ge 68, 3) := by decide +kernel
theorem d_M_detours_17 : decode (ab_bc mt_M_detours) 17 = .ok (.aload_n 0, 1) := by decide +kernel
theorem d_M_detours_18 : decode (ab_bc mt_M_detours) 18 = .ok (.iload_n 3, 1) := by decide +kernel
theorem d_M_detours_19 : decode (ab_bc mt_M_detours) 19 = .ok (.invokevirtual 331, 3) := by decide +kernel
theorem d_M_detours_22 : decode (ab_bc mt_M_detours) 22 = .ok (.iload_n 3, 1) := by decide +kernel
theorem d_M_detours_23 : decode (ab_bc mt_M_detours) 23 = .ok (.iconst 1, 1) := by decide +kernel
theorem d_M_detours_24 : decode (ab_bc mt_M_detours) 24 = .ok (.iadd, 1) := by decide +kernel
theorem d_M_detours_25 : decode (ab_bc mt_M_detours) 25 = .ok (.istore 4, 2) := by decide +kernel
theorem d_M_detours_27 : decode (ab_bc mt_M_detours) 27 = .ok (.iload 4, 2) := by decide +kernel
theorem d_M_detours_29 : decode (ab_bc mt_M_detours) 29 = .ok (.aload_n 0, 1) := by decide +kernel
theorem d_M_detours_30 : decode (ab_bc mt_M_detours) 30 = .ok (.getfield 21, 3) := by decide +kernel
theorem d_M_detours_33 : decode (ab_bc mt_M_detours) 33 = .ok (.if_icmp .ge 43, 3) := by decide +kernel
theorem d_M_detours_36 : decode (ab_bc mt_M_detours) 36 = .ok (.iload_n 2, 1) := by decide +kernel
theorem d_M_detours_37 : decode (ab_bc mt_M_detours) 37 = .ok (.aload_n 0, 1) := by decide +kernel
theorem d_M_detours_38 : decode (ab_bc mt_M_detours) 38 = .ok (.iload_n 1, 1) := by decide +kernel
theorem d_M_detours_39 : decode (ab_bc mt_M_detours) 39 = .ok (.iload_n 3, 1) := by decide +kernel
theorem d_M_detours_40 : decode (ab_bc mt_M_detours) 40 = .ok (.iload 4, 2) := by decide +kernel
theorem d_M_detours_42 : decode (ab_bc mt_M_detours) 42 = .ok (.invokevirtual 275, 3) := by decide +kernel
theorem d_M_detours_45 : decode (ab_bc mt_M_detours) 45 = .ok (.iconst (-1), 1) := by decide +kernel
theorem d_M_detours_46 : decode (ab_bc mt_M_detours) 46 = .ok (.if_icmp .eq 21, 3) := by decide +kernel
theorem d_M_detours_49 : decode (ab_bc mt_M_detours) 49 = .ok (.aload_n 0, 1) := by decide +kernel
theorem d_M_detours_50 : decode (ab_bc mt_M_detours) 50 = .ok (.invokevirtual 291, 3) := by decide +kernel
theorem d_M_detours_53 : decode (ab_bc mt_M_detours) 53 = .ok (.aload_n 0, 1) := by decide +kernel
theorem d_M_detours_54 : decode (ab_bc mt_M_detours) 54 = .ok (.getfield 58, 3) := by decide +kernel
theorem d_M_detours_57 : decode (ab_bc mt_M_detours) 57 = .ok (.iload 4, 2) := by decide +kernel
theorem d_M_detours_59 : decode (ab_bc mt_M_detours) 59 = .ok (.iaload, 1) := by decide +kernel
theorem d_M_detours_60 : decode (ab_bc mt_M_detours) 60 = .ok (.if_icmp .le 7, 3) := by decide +kernel
theorem d_M_detours_63 : decode (ab_bc mt_M_detours) 63 = .ok (.iconst 1, 1) := by decide +kernel
theorem d_M_detours_64 : decode (ab_bc mt_M_detours) 64 = .ok (.goto 4, 3) := by decide +kernel
theorem d_M_detours_67 : decode (ab_bc mt_M_detours) 67 = .ok (.iconst 0, 1) := by decide +kernel
theorem d_M_detours_68 : decode (ab_bc mt_M_detours) 68 = .ok (.iadd, 1) := by decide +kernel
theorem d_M_detours_69 : decode (ab_bc mt_M_detours) 69 = .ok (.istore_n 2, 1) := by decide +kernel
theorem d_M_detours_70 : decode (ab_bc mt_M_detours) 70 = .ok (.iinc 4 1, 3) := by decide +kernel
theorem d_M_detours_73 : decode (ab_bc mt_M_detours) 73 = .ok (.goto (-46), 3) := by decide +kernel
theorem d_M_detours_76 : decode (ab_bc mt_M_detours) 76 = .ok (.iinc 3 1, 3) := by decide +kernel
theorem d_M_detours_79 : decode (ab_bc mt_M_detours) 79 = .ok (.goto (-70), 3) := by decide +kernel
theorem d_M_detours_82 : decode (ab_bc mt_M_detours) 82 = .ok (.iload_n 2, 1) := by decide +kernel
theorem d_M_detours_83 : decode (ab_bc mt_M_detours) 83 = .ok (.ireturn, 1) := by decide +kernel
-- CableKeeperModel.detours()I over mx
theorem q_M_detours_0 {w : ab_Wd} {d n nc ns : Nat} {I : Nat → Nat → Int32} {L : Nat → Nat → Int64} {res : ab_Re}  (hc : nc ≤ res.2.2.2.2.2.1) (hs : ns ≤ res.2.2.2.2.2.2)
    (h : ∃ (r1 : Int32) (I2 : Nat → Nat → Int32), ab_C w d mt_M_netNow [.ref mx] (I, L, ab_RR, n, nc, ns) (.inl (some (.int r1)), (I2, L, ab_RR, n, nc, ns)) ∧ ab_E w (d + 1) mt_M_detours 9 [.ref mx, .int r1, .int 0, .int 0, .null] [] (I2, L, ab_RR, n, nc, ns) res) : ab_E w (d + 1) mt_M_detours 0 [.ref mx, .null, .null, .null, .null] [] (I, L, ab_RR, n, nc, ns) res := by
  refine ab_aload_n (i := 0) d_M_detours_0 rfl rfl ?_
  obtain ⟨r1, I2, hC, h⟩ := h
  refine ab_callV (me2 := mt_M_netNow) (b := mx) (as := []) (st := []) (rv := (some (.int r1))) (M2 := (I2, L, ab_RR, n, nc, ns)) d_M_detours_1 ce_M_netNow v_1639 v_1641 v_80 (by decide) rfl (Nat.le_of_ble_eq_true rfl) hC (Nat.le_refl _) (Nat.le_refl _) hc hs (fun j h9 => by cases h9) (fun _ _ => rfl) ?_
  show ab_E w (d + 1) mt_M_detours 4 [.ref mx, .null, .null, .null, .null] [.int r1] (I2, L, ab_RR, n, nc, ns) res
  refine ab_istore_n (i := 1) d_M_detours_4 rfl (by decide) (Or.inr rfl) ?_
  refine ab_iconst (v := 0) d_M_detours_5 rfl ?_
  refine ab_istore_n (i := 2) d_M_detours_6 rfl (by decide) (Or.inr rfl) ?_
  refine ab_iconst (v := 0) d_M_detours_7 rfl ?_
  refine ab_istore_n (i := 3) d_M_detours_8 rfl (by decide) (Or.inr rfl) ?_
  exact h
theorem q_M_detours_9 {w : ab_Wd} {d n nc ns : Nat} {I : Nat → Nat → Int32} {L : Nat → Nat → Int64} {res : ab_Re} (v1 : Int32) (v2 : Int32) (v3 : Int32) (hc : nc ≤ res.2.2.2.2.2.1) (hs : ns ≤ res.2.2.2.2.2.2)
    (h : (((I mx 2) ≤ v3 → (res = (.inl (some (.int v2)), (I, L, ab_RR, n, nc, ns)))) ∧ (¬ (I mx 2) ≤ v3 → (∃ (I3 : Nat → Nat → Int32), ab_C w d mt_M_tellNear [.ref mx, .int v3] (I, L, ab_RR, n, nc, ns) (.inl none, (I3, L, ab_RR, n, nc, ns)) ∧ ab_E w (d + 1) mt_M_detours 27 [.ref mx, .int v1, .int v2, .int v3, .int (v3 + 1)] [] (I3, L, ab_RR, n, nc, ns) res)))) : ab_E w (d + 1) mt_M_detours 9 [.ref mx, .int v1, .int v2, .int v3, .null] [] (I, L, ab_RR, n, nc, ns) res := by
  refine ab_iload_n (i := 3) d_M_detours_9 rfl rfl ?_
  refine ab_aload_n (i := 0) d_M_detours_10 rfl rfl ?_
  refine ab_getI (ci := 11) (k := 2) d_M_detours_11 v_1370 rfl (by decide) (by decide) rfl ?_
  refine ab_icmp_ge (tgt := 82) d_M_detours_14 (by decide) (fun c1 => ?_) (fun c1 => ?_)
  · have h := h.1 c1
    refine ab_iload_n (i := 2) d_M_detours_82 rfl rfl ?_
    exact ab_iret (ty := .int) d_M_detours_83 rfl rfl h
  · have h := h.2 c1
    refine ab_aload_n (i := 0) d_M_detours_17 rfl rfl ?_
    refine ab_iload_n (i := 3) d_M_detours_18 rfl rfl ?_
    obtain ⟨I3, hC, h⟩ := h
    refine ab_callV (me2 := mt_M_tellNear) (b := mx) (as := [.int v3]) (st := []) (rv := none) (M2 := (I3, L, ab_RR, n, nc, ns)) d_M_detours_19 ce_M_tellNear v_1739 v_1741 v_104 (by decide) rfl (Nat.le_of_ble_eq_true rfl) hC (Nat.le_refl _) (Nat.le_refl _) hc hs (fun j h9 => by cases h9) (fun _ _ => rfl) ?_
    show ab_E w (d + 1) mt_M_detours 22 [.ref mx, .int v1, .int v2, .int v3, .null] [] (I3, L, ab_RR, n, nc, ns) res
    refine ab_iload_n (i := 3) d_M_detours_22 rfl rfl ?_
    refine ab_iconst (v := 1) d_M_detours_23 rfl ?_
    refine ab_iadd d_M_detours_24 ?_
    refine ab_istore (i := 4) d_M_detours_25 (by decide) (Or.inr rfl) ?_
    exact h
theorem q_M_detours_27 {w : ab_Wd} {d n nc ns : Nat} {I : Nat → Nat → Int32} {L : Nat → Nat → Int64} {res : ab_Re} (v1 : Int32) (v2 : Int32) (v3 : Int32) (v4 : Int32) (hc : nc ≤ res.2.2.2.2.2.1) (hs : ns ≤ res.2.2.2.2.2.2)
    (h : (((I mx 2) ≤ v4 → (ab_E w (d + 1) mt_M_detours 9 [.ref mx, .int v1, .int v2, .int (v3 + 1), .null] [] (I, L, ab_RR, n, nc, ns) res)) ∧ (¬ (I mx 2) ≤ v4 → (∃ (r2 : Int32) (I3 : Nat → Nat → Int32), ab_C w d mt_M_tellWay [.ref mx, .int v1, .int v3, .int v4] (I, L, ab_RR, n, nc, ns) (.inl (some (.int r2)), (I3, L, ab_RR, n, nc, ns)) ∧ ((r2 = (-1) → (ab_E w (d + 1) mt_M_detours 67 [.ref mx, .int v1, .int v2, .int v3, .int v4] [.int v2] (I3, L, ab_RR, n, nc, ns) res)) ∧ (¬ r2 = (-1) → (∃ (r5 : Int32), ab_C w d mt_M_pricesOnWay [.ref mx] (I3, L, ab_RR, n, nc, ns) (.inl (some (.int r5)), (I3, L, ab_RR, n, nc, ns)) ∧ (vp_in v4 10) ∧ ((r5 ≤ (I3 mx_near v4.toNatClampNeg) → (ab_E w (d + 1) mt_M_detours 67 [.ref mx, .int v1, .int v2, .int v3, .int v4] [.int v2] (I3, L, ab_RR, n, nc, ns) res)) ∧ (¬ r5 ≤ (I3 mx_near v4.toNatClampNeg) → (ab_E w (d + 1) mt_M_detours 68 [.ref mx, .int v1, .int v2, .int v3, .int v4] [.int 1, .int v2] (I3, L, ab_RR, n, nc, ns) res)))))))))) : ab_E w (d + 1) mt_M_detours 27 [.ref mx, .int v1, .int v2, .int v3, .int v4] [] (I, L, ab_RR, n, nc, ns) res := by
  refine ab_iload (i := 4) d_M_detours_27 rfl ?_
  refine ab_aload_n (i := 0) d_M_detours_29 rfl rfl ?_
  refine ab_getI (ci := 11) (k := 2) d_M_detours_30 v_1370 rfl (by decide) (by decide) rfl ?_
  refine ab_icmp_ge (tgt := 76) d_M_detours_33 (by decide) (fun c1 => ?_) (fun c1 => ?_)
  · have h := h.1 c1
    refine ab_iinc (i := 3) (v := (v3 + 1)) d_M_detours_76 rfl rfl (by decide) (Or.inr rfl) ?_
    refine ab_goto (tgt := 9) d_M_detours_79 (by decide) ?_
    refine ab_drop 4 ?_
    exact h
  · have h := h.2 c1
    refine ab_iload_n (i := 2) d_M_detours_36 rfl rfl ?_
    refine ab_aload_n (i := 0) d_M_detours_37 rfl rfl ?_
    refine ab_iload_n (i := 1) d_M_detours_38 rfl rfl ?_
    refine ab_iload_n (i := 3) d_M_detours_39 rfl rfl ?_
    refine ab_iload (i := 4) d_M_detours_40 rfl ?_
    obtain ⟨r2, I3, hC, h⟩ := h
    refine ab_callV (me2 := mt_M_tellWay) (b := mx) (as := [.int v1, .int v3, .int v4]) (st := [.int v2]) (rv := (some (.int r2))) (M2 := (I3, L, ab_RR, n, nc, ns)) d_M_detours_42 ce_M_tellWay v_1687 v_1689 v_91 (by decide) rfl (Nat.le_of_ble_eq_true rfl) hC (Nat.le_refl _) (Nat.le_refl _) hc hs (fun j h9 => by cases h9) (fun _ _ => rfl) ?_
    show ab_E w (d + 1) mt_M_detours 45 [.ref mx, .int v1, .int v2, .int v3, .int v4] [.int r2, .int v2] (I3, L, ab_RR, n, nc, ns) res
    refine ab_iconst (v := (-1)) d_M_detours_45 rfl ?_
    refine ab_icmp_eq (tgt := 67) d_M_detours_46 (by decide) (fun c4 => ?_) (fun c4 => ?_)
    · have h := h.1 c4
      exact h
    · have h := h.2 c4
      refine ab_aload_n (i := 0) d_M_detours_49 rfl rfl ?_
      obtain ⟨r5, hC, h⟩ := h
      refine ab_callV (me2 := mt_M_pricesOnWay) (b := mx) (as := []) (st := [.int v2]) (rv := (some (.int r5))) (M2 := (I3, L, ab_RR, n, nc, ns)) d_M_detours_50 ce_M_pricesOnWay v_1711 v_1713 v_97 (by decide) rfl (Nat.le_of_ble_eq_true rfl) hC (Nat.le_refl _) (Nat.le_refl _) hc hs (fun j h9 => by cases h9) (fun _ _ => rfl) ?_
      show ab_E w (d + 1) mt_M_detours 53 [.ref mx, .int v1, .int v2, .int v3, .int v4] [.int r5, .int v2] (I3, L, ab_RR, n, nc, ns) res
      refine ab_aload_n (i := 0) d_M_detours_53 rfl rfl ?_
      refine ab_getR (ci := 11) (k := 28) (j := mx_near) d_M_detours_54 v_1396 rfl (by decide) (by decide) rfl r_mx_28 ?_
      refine ab_iload (i := 4) d_M_detours_57 rfl ?_
      have g6 := h.1; have h := h.2
      refine ab_iald d_M_detours_59 rfl rfl g6 ?_
      refine ab_icmp_le (tgt := 67) d_M_detours_60 (by decide) (fun c7 => ?_) (fun c7 => ?_)
      · have h := h.1 c7
        exact h
      · have h := h.2 c7
        refine ab_iconst (v := 1) d_M_detours_63 rfl ?_
        refine ab_goto (tgt := 68) d_M_detours_64 (by decide) ?_
        exact h
theorem q_M_detours_67 {w : ab_Wd} {d n nc ns : Nat} {I : Nat → Nat → Int32} {L : Nat → Nat → Int64} {res : ab_Re} (v1 : Int32) (v2 : Int32) (v3 : Int32) (v4 : Int32) (s0 : Int32) (hc : nc ≤ res.2.2.2.2.2.1) (hs : ns ≤ res.2.2.2.2.2.2)
    (h : ab_E w (d + 1) mt_M_detours 68 [.ref mx, .int v1, .int v2, .int v3, .int v4] [.int 0, .int s0] (I, L, ab_RR, n, nc, ns) res) : ab_E w (d + 1) mt_M_detours 67 [.ref mx, .int v1, .int v2, .int v3, .int v4] [.int s0] (I, L, ab_RR, n, nc, ns) res := by
  refine ab_iconst (v := 0) d_M_detours_67 rfl ?_
  exact h
theorem q_M_detours_68 {w : ab_Wd} {d n nc ns : Nat} {I : Nat → Nat → Int32} {L : Nat → Nat → Int64} {res : ab_Re} (v1 : Int32) (v2 : Int32) (v3 : Int32) (v4 : Int32) (s0 : Int32) (s1 : Int32) (hc : nc ≤ res.2.2.2.2.2.1) (hs : ns ≤ res.2.2.2.2.2.2)
    (h : ab_E w (d + 1) mt_M_detours 27 [.ref mx, .int v1, .int (s0 + s1), .int v3, .int (v4 + 1)] [] (I, L, ab_RR, n, nc, ns) res) : ab_E w (d + 1) mt_M_detours 68 [.ref mx, .int v1, .int v2, .int v3, .int v4] [.int s1, .int s0] (I, L, ab_RR, n, nc, ns) res := by
  refine ab_iadd d_M_detours_68 ?_
  refine ab_istore_n (i := 2) d_M_detours_69 rfl (by decide) (Or.inr rfl) ?_
  refine ab_iinc (i := 4) (v := (v4 + 1)) d_M_detours_70 rfl rfl (by decide) (Or.inr rfl) ?_
  refine ab_goto (tgt := 27) d_M_detours_73 (by decide) ?_
  exact h
theorem d_M_apartOf_0 : decode (ab_bc mt_M_apartOf) 0 = .ok (.iconst 0, 1) := by decide +kernel
theorem d_M_apartOf_1 : decode (ab_bc mt_M_apartOf) 1 = .ok (.istore_n 3, 1) := by decide +kernel
theorem d_M_apartOf_2 : decode (ab_bc mt_M_apartOf) 2 = .ok (.iload_n 3, 1) := by decide +kernel
theorem d_M_apartOf_3 : decode (ab_bc mt_M_apartOf) 3 = .ok (.bipush 24, 2) := by decide +kernel
theorem d_M_apartOf_5 : decode (ab_bc mt_M_apartOf) 5 = .ok (.if_icmp .ge 16, 3) := by decide +kernel
theorem d_M_apartOf_8 : decode (ab_bc mt_M_apartOf) 8 = .ok (.aload_n 0, 1) := by decide +kernel
theorem d_M_apartOf_9 : decode (ab_bc mt_M_apartOf) 9 = .ok (.getfield 61, 3) := by decide +kernel
theorem d_M_apartOf_12 : decode (ab_bc mt_M_apartOf) 12 = .ok (.iload_n 3, 1) := by decide +kernel
theorem d_M_apartOf_13 : decode (ab_bc mt_M_apartOf) 13 = .ok (.iconst 0, 1) := by decide +kernel
theorem d_M_apartOf_14 : decode (ab_bc mt_M_apartOf) 14 = .ok (.iastore, 1) := by decide +kernel
theorem d_M_apartOf_15 : decode (ab_bc mt_M_apartOf) 15 = .ok (.iinc 3 1, 3) := by decide +kernel
theorem d_M_apartOf_18 : decode (ab_bc mt_M_apartOf) 18 = .ok (.goto (-16), 3) := by decide +kernel
theorem d_M_apartOf_21 : decode (ab_bc mt_M_apartOf) 21 = .ok (.iconst (-1), 1) := by decide +kernel
theorem d_M_apartOf_22 : decode (ab_bc mt_M_apartOf) 22 = .ok (.istore_n 3, 1) := by decide +kernel
theorem d_M_apartOf_23 : decode (ab_bc mt_M_apartOf) 23 = .ok (.iload_n 1, 1) := by decide +kernel
theorem d_M_apartOf_24 : decode (ab_bc mt_M_apartOf) 24 = .ok (.iload_n 2, 1) := by decide +kernel
theorem d_M_apartOf_25 : decode (ab_bc mt_M_apartOf) 25 = .ok (.if_icmp .eq 7, 3) := by decide +kernel
theorem d_M_apartOf_28 : decode (ab_bc mt_M_apartOf) 28 = .ok (.iconst 1, 1) := by decide +kernel
theorem d_M_apartOf_29 : decode (ab_bc mt_M_apartOf) 29 = .ok (.goto 4, 3) := by decide +kernel
theorem d_M_apartOf_32 : decode (ab_bc mt_M_apartOf) 32 = .ok (.iconst 0, 1) := by decide +kernel
theorem d_M_apartOf_33 : decode (ab_bc mt_M_apartOf) 33 = .ok (.istore 4, 2) := by decide +kernel
theorem d_M_apartOf_35 : decode (ab_bc mt_M_apartOf) 35 = .ok (.iload 4, 2) := by decide +kernel
theorem d_M_apartOf_37 : decode (ab_bc mt_M_apartOf) 37 = .ok (.ifCond .eq 47, 3) := by decide +kernel
theorem d_M_apartOf_40 : decode (ab_bc mt_M_apartOf) 40 = .ok (.iinc 3 1, 3) := by decide +kernel
theorem d_M_apartOf_43 : decode (ab_bc mt_M_apartOf) 43 = .ok (.iconst 0, 1) := by decide +kernel
theorem d_M_apartOf_44 : decode (ab_bc mt_M_apartOf) 44 = .ok (.istore 5, 2) := by decide +kernel
theorem d_M_apartOf_46 : decode (ab_bc mt_M_apartOf) 46 = .ok (.iload 5, 2) := by decide +kernel
theorem d_M_apartOf_48 : decode (ab_bc mt_M_apartOf) 48 = .ok (.aload_n 0, 1) := by decide +kernel
theorem d_M_apartOf_49 : decode (ab_bc mt_M_apartOf) 49 = .ok (.getfield 21, 3) := by decide +kernel
theorem d_M_apartOf_52 : decode (ab_bc mt_M_apartOf) 52 = .ok (.if_icmp .ge 17, 3) := by decide +kernel
theorem d_M_apartOf_55 : decode (ab_bc mt_M_apartOf) 55 = .ok (.aload_n 0, 1) := by decide +kernel
theorem d_M_apartOf_56 : decode (ab_bc mt_M_apartOf) 56 = .ok (.getfield 64, 3) := by decide +kernel
theorem d_M_apartOf_59 : decode (ab_bc mt_M_apartOf) 59 = .ok (.iload 5, 2) := by decide +kernel
theorem d_M_apartOf_61 : decode (ab_bc mt_M_apartOf) 61 = .ok (.iconst 0, 1) := by decide +kernel
theorem d_M_apartOf_62 : decode (ab_bc mt_M_apartOf) 62 = .ok (.bastore, 1) := by decide +kernel
theorem d_M_apartOf_63 : decode (ab_bc mt_M_apartOf) 63 = .ok (.iinc 5 1, 3) := by decide +kernel
theorem d_M_apartOf_66 : decode (ab_bc mt_M_apartOf) 66 = .ok (.goto (-20), 3) := by decide +kernel
theorem d_M_apartOf_69 : decode (ab_bc mt_M_apartOf) 69 = .ok (.aload_n 0, 1) := by decide +kernel
theorem d_M_apartOf_70 : decode (ab_bc mt_M_apartOf) 70 = .ok (.iload_n 1, 1) := by decide +kernel
theorem d_M_apartOf_71 : decode (ab_bc mt_M_apartOf) 71 = .ok (.iload_n 2, 1) := by decide +kernel
theorem d_M_apartOf_72 : decode (ab_bc mt_M_apartOf) 72 = .ok (.aload_n 0, 1) := by decide +kernel
theorem d_M_apartOf_73 : decode (ab_bc mt_M_apartOf) 73 = .ok (.getfield 64, 3) := by decide +kernel
theorem d_M_apartOf_76 : decode (ab_bc mt_M_apartOf) 76 = .ok (.invokevirtual 334, 3) := by decide +kernel
theorem d_M_apartOf_79 : decode (ab_bc mt_M_apartOf) 79 = .ok (.istore 4, 2) := by decide +kernel
theorem d_M_apartOf_81 : decode (ab_bc mt_M_apartOf) 81 = .ok (.goto (-46), 3) := by decide +kernel
theorem d_M_apartOf_84 : decode (ab_bc mt_M_apartOf) 84 = .ok (.iconst 0, 1) := by decide +kernel
theorem d_M_apartOf_85 : decode (ab_bc mt_M_apartOf) 85 = .ok (.iload_n 3, 1) := by decide +kernel
theorem d_M_apartOf_86 : decode (ab_bc mt_M_apartOf) 86 = .ok (.invokestatic 225, 3) := by decide +kernel
theorem d_M_apartOf_89 : decode (ab_bc mt_M_apartOf) 89 = .ok (.ireturn, 1) := by decide +kernel
-- CableKeeperModel.apartOf(II)I over mx
theorem q_M_apartOf_0 {w : ab_Wd} {d n nc ns : Nat} {I : Nat → Nat → Int32} {L : Nat → Nat → Int64} {res : ab_Re} (v1 : Int32) (v2 : Int32) (hc : nc ≤ res.2.2.2.2.2.1) (hs : ns ≤ res.2.2.2.2.2.2)
    (h : ab_E w (d + 1) mt_M_apartOf 2 [.ref mx, .int v1, .int v2, .int 0, .null, .null] [] (I, L, ab_RR, n, nc, ns) res) : ab_E w (d + 1) mt_M_apartOf 0 [.ref mx, .int v1, .int v2, .null, .null, .null] [] (I, L, ab_RR, n, nc, ns) res := by
  refine ab_iconst (v := 0) d_M_apartOf_0 rfl ?_
  refine ab_istore_n (i := 3) d_M_apartOf_1 rfl (by decide) (Or.inr rfl) ?_
  exact h
theorem q_M_apartOf_2 {w : ab_Wd} {d n nc ns : Nat} {I : Nat → Nat → Int32} {L : Nat → Nat → Int64} {res : ab_Re} (v1 : Int32) (v2 : Int32) (v3 : Int32) (hc : nc ≤ res.2.2.2.2.2.1) (hs : ns ≤ res.2.2.2.2.2.2)
    (h : ((24 ≤ v3 → ((v1 = v2 → (ab_E w (d + 1) mt_M_apartOf 33 [.ref mx, .int v1, .int v2, .int (-1), .null, .null] [.int 0] (I, L, ab_RR, n, nc, ns) res)) ∧ (¬ v1 = v2 → (ab_E w (d + 1) mt_M_apartOf 33 [.ref mx, .int v1, .int v2, .int (-1), .null, .null] [.int 1] (I, L, ab_RR, n, nc, ns) res)))) ∧ (¬ 24 ≤ v3 → ((vp_in v3 24) ∧ ab_E w (d + 1) mt_M_apartOf 2 [.ref mx, .int v1, .int v2, .int (v3 + 1), .null, .null] [] ((ab_up I mx_gone v3.toNatClampNeg 0), L, ab_RR, n, nc, ns) res)))) : ab_E w (d + 1) mt_M_apartOf 2 [.ref mx, .int v1, .int v2, .int v3, .null, .null] [] (I, L, ab_RR, n, nc, ns) res := by
  refine ab_iload_n (i := 3) d_M_apartOf_2 rfl rfl ?_
  refine ab_bipush (v := 24) d_M_apartOf_3 rfl ?_
  refine ab_icmp_ge (tgt := 21) d_M_apartOf_5 (by decide) (fun c1 => ?_) (fun c1 => ?_)
  · have h := h.1 c1
    refine ab_iconst (v := (-1)) d_M_apartOf_21 rfl ?_
    refine ab_istore_n (i := 3) d_M_apartOf_22 rfl (by decide) (Or.inr rfl) ?_
    refine ab_iload_n (i := 1) d_M_apartOf_23 rfl rfl ?_
    refine ab_iload_n (i := 2) d_M_apartOf_24 rfl rfl ?_
    refine ab_icmp_eq (tgt := 32) d_M_apartOf_25 (by decide) (fun c2 => ?_) (fun c2 => ?_)
    · have h := h.1 c2
      refine ab_iconst (v := 0) d_M_apartOf_32 rfl ?_
      exact h
    · have h := h.2 c2
      refine ab_iconst (v := 1) d_M_apartOf_28 rfl ?_
      refine ab_goto (tgt := 33) d_M_apartOf_29 (by decide) ?_
      exact h
  · have h := h.2 c1
    refine ab_aload_n (i := 0) d_M_apartOf_8 rfl rfl ?_
    refine ab_getR (ci := 11) (k := 29) (j := mx_gone) d_M_apartOf_9 v_1397 rfl (by decide) (by decide) rfl r_mx_29 ?_
    refine ab_iload_n (i := 3) d_M_apartOf_12 rfl rfl ?_
    refine ab_iconst (v := 0) d_M_apartOf_13 rfl ?_
    have g3 := h.1; have h := h.2
    refine ab_iast d_M_apartOf_14 rfl rfl g3 ?_
    refine ab_iinc (i := 3) (v := (v3 + 1)) d_M_apartOf_15 rfl rfl (by decide) (Or.inr rfl) ?_
    refine ab_goto (tgt := 2) d_M_apartOf_18 (by decide) ?_
    exact h
theorem q_M_apartOf_33 {w : ab_Wd} {d n nc ns : Nat} {I : Nat → Nat → Int32} {L : Nat → Nat → Int64} {res : ab_Re} (v1 : Int32) (v2 : Int32) (v3 : Int32) (s0 : Int32) (hc : nc ≤ res.2.2.2.2.2.1) (hs : ns ≤ res.2.2.2.2.2.2)
    (h : ab_E w (d + 1) mt_M_apartOf 35 [.ref mx, .int v1, .int v2, .int v3, .int s0, .null] [] (I, L, ab_RR, n, nc, ns) res) : ab_E w (d + 1) mt_M_apartOf 33 [.ref mx, .int v1, .int v2, .int v3, .null, .null] [.int s0] (I, L, ab_RR, n, nc, ns) res := by
  refine ab_istore (i := 4) d_M_apartOf_33 (by decide) (Or.inr rfl) ?_
  exact h
theorem q_M_apartOf_35 {w : ab_Wd} {d n nc ns : Nat} {I : Nat → Nat → Int32} {L : Nat → Nat → Int64} {res : ab_Re} (v1 : Int32) (v2 : Int32) (v3 : Int32) (v4 : Int32) (hc : nc ≤ res.2.2.2.2.2.1) (hs : ns ≤ res.2.2.2.2.2.2)
    (h : ((v4 = 0 → (res = (.inl (some (.int (ab_max32 0 v3))), (I, L, ab_RR, n, nc, ns)))) ∧ (¬ v4 = 0 → (ab_E w (d + 1) mt_M_apartOf 46 [.ref mx, .int v1, .int v2, .int (v3 + 1), .int v4, .int 0] [] (I, L, ab_RR, n, nc, ns) res)))) : ab_E w (d + 1) mt_M_apartOf 35 [.ref mx, .int v1, .int v2, .int v3, .int v4, .null] [] (I, L, ab_RR, n, nc, ns) res := by
  refine ab_iload (i := 4) d_M_apartOf_35 rfl ?_
  refine ab_if_eq (tgt := 84) d_M_apartOf_37 (by decide) (fun c1 => ?_) (fun c1 => ?_)
  · have h := h.1 c1
    refine ab_iconst (v := 0) d_M_apartOf_84 rfl ?_
    refine ab_iload_n (i := 3) d_M_apartOf_85 rfl rfl ?_
    refine ab_max d_M_apartOf_86 v_1662 v_451 v_150 v_452 (Nat.succ_le_succ (Nat.zero_le _)) (Nat.le_of_ble_eq_true rfl) hc hs ?_
    exact ab_iret (ty := .int) d_M_apartOf_89 rfl rfl h
  · have h := h.2 c1
    refine ab_iinc (i := 3) (v := (v3 + 1)) d_M_apartOf_40 rfl rfl (by decide) (Or.inr rfl) ?_
    refine ab_iconst (v := 0) d_M_apartOf_43 rfl ?_
    refine ab_istore (i := 5) d_M_apartOf_44 (by decide) (Or.inr rfl) ?_
    exact h
theorem q_M_apartOf_46 {w : ab_Wd} {d n nc ns : Nat} {I : Nat → Nat → Int32} {L : Nat → Nat → Int64} {res : ab_Re} (v1 : Int32) (v2 : Int32) (v3 : Int32) (v4 : Int32) (v5 : Int32) (hc : nc ≤ res.2.2.2.2.2.1) (hs : ns ≤ res.2.2.2.2.2.2)
    (h : (((I mx 2) ≤ v5 → (∃ (r2 : Int32) (I3 : Nat → Nat → Int32), ab_C w d mt_M_finds [.ref mx, .int v1, .int v2, .ref mx_metSites] (I, L, ab_RR, n, nc, ns) (.inl (some (.int r2)), (I3, L, ab_RR, n, nc, ns)) ∧ ab_E w (d + 1) mt_M_apartOf 35 [.ref mx, .int v1, .int v2, .int v3, .int r2, .null] [] (I3, L, ab_RR, n, nc, ns) res)) ∧ (¬ (I mx 2) ≤ v5 → ((vp_in v5 10) ∧ ab_E w (d + 1) mt_M_apartOf 46 [.ref mx, .int v1, .int v2, .int v3, .int v4, .int (v5 + 1)] [] ((ab_up I mx_metSites v5.toNatClampNeg (vp_nar .boolean 0)), L, ab_RR, n, nc, ns) res)))) : ab_E w (d + 1) mt_M_apartOf 46 [.ref mx, .int v1, .int v2, .int v3, .int v4, .int v5] [] (I, L, ab_RR, n, nc, ns) res := by
  refine ab_iload (i := 5) d_M_apartOf_46 rfl ?_
  refine ab_aload_n (i := 0) d_M_apartOf_48 rfl rfl ?_
  refine ab_getI (ci := 11) (k := 2) d_M_apartOf_49 v_1370 rfl (by decide) (by decide) rfl ?_
  refine ab_icmp_ge (tgt := 69) d_M_apartOf_52 (by decide) (fun c1 => ?_) (fun c1 => ?_)
  · have h := h.1 c1
    refine ab_aload_n (i := 0) d_M_apartOf_69 rfl rfl ?_
    refine ab_iload_n (i := 1) d_M_apartOf_70 rfl rfl ?_
    refine ab_iload_n (i := 2) d_M_apartOf_71 rfl rfl ?_
    refine ab_aload_n (i := 0) d_M_apartOf_72 rfl rfl ?_
    refine ab_getR (ci := 11) (k := 30) (j := mx_metSites) d_M_apartOf_73 v_1398 rfl (by decide) (by decide) rfl r_mx_30 ?_
    obtain ⟨r2, I3, hC, h⟩ := h
    refine ab_callV (me2 := mt_M_finds) (b := mx) (as := [.int v1, .int v2, .ref mx_metSites]) (st := []) (rv := (some (.int r2))) (M2 := (I3, L, ab_RR, n, nc, ns)) d_M_apartOf_76 ce_M_finds v_1803 v_1805 v_114 (by decide) rfl (Nat.le_of_ble_eq_true rfl) hC (Nat.le_refl _) (Nat.le_refl _) hc hs (fun j h9 => by cases h9) (fun _ _ => rfl) ?_
    show ab_E w (d + 1) mt_M_apartOf 79 [.ref mx, .int v1, .int v2, .int v3, .int v4, .int v5] [.int r2] (I3, L, ab_RR, n, nc, ns) res
    refine ab_istore (i := 4) d_M_apartOf_79 (by decide) (Or.inr rfl) ?_
    refine ab_goto (tgt := 35) d_M_apartOf_81 (by decide) ?_
    refine ab_drop 5 ?_
    exact h
  · have h := h.2 c1
    refine ab_aload_n (i := 0) d_M_apartOf_55 rfl rfl ?_
    refine ab_getR (ci := 11) (k := 30) (j := mx_metSites) d_M_apartOf_56 v_1398 rfl (by decide) (by decide) rfl r_mx_30 ?_
    refine ab_iload (i := 5) d_M_apartOf_59 rfl ?_
    refine ab_iconst (v := 0) d_M_apartOf_61 rfl ?_
    have g4 := h.1; have h := h.2
    refine ab_zast d_M_apartOf_62 rfl rfl g4 ?_
    refine ab_iinc (i := 5) (v := (v5 + 1)) d_M_apartOf_63 rfl rfl (by decide) (Or.inr rfl) ?_
    refine ab_goto (tgt := 46) d_M_apartOf_66 (by decide) ?_
    exact h
