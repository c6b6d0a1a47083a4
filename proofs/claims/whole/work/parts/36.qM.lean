theorem d_M_swaps_0 : decode (ab_bc mt_M_swaps) 0 = .ok (.aload_n 0, 1) := by decide +kernel
theorem d_M_swaps_1 : decode (ab_bc mt_M_swaps) 1 = .ok (.invokevirtual 251, 3) := by decide +kernel
theorem d_M_swaps_4 : decode (ab_bc mt_M_swaps) 4 = .ok (.istore 4, 2) := by decide +kernel
theorem d_M_swaps_6 : decode (ab_bc mt_M_swaps) 6 = .ok (.iload_n 3, 1) := by decide +kernel
theorem d_M_swaps_7 : decode (ab_bc mt_M_swaps) 7 = .ok (.iload 4, 2) := by decide +kernel
theorem d_M_swaps_9 : decode (ab_bc mt_M_swaps) 9 = .ok (.iconst (-1), 1) := by decide +kernel
theorem d_M_swaps_10 : decode (ab_bc mt_M_swaps) 10 = .ok (.ixor, 1) := by decide +kernel
theorem d_M_swaps_11 : decode (ab_bc mt_M_swaps) 11 = .ok (.iand, 1) := by decide +kernel
theorem d_M_swaps_12 : decode (ab_bc mt_M_swaps) 12 = .ok (.istore 5, 2) := by decide +kernel
theorem d_M_swaps_14 : decode (ab_bc mt_M_swaps) 14 = .ok (.iload 4, 2) := by decide +kernel
theorem d_M_swaps_16 : decode (ab_bc mt_M_swaps) 16 = .ok (.iload_n 3, 1) := by decide +kernel
theorem d_M_swaps_17 : decode (ab_bc mt_M_swaps) 17 = .ok (.iconst (-1), 1) := by decide +kernel
theorem d_M_swaps_18 : decode (ab_bc mt_M_swaps) 18 = .ok (.ixor, 1) := by decide +kernel
theorem d_M_swaps_19 : decode (ab_bc mt_M_swaps) 19 = .ok (.iand, 1) := by decide +kernel
theorem d_M_swaps_20 : decode (ab_bc mt_M_swaps) 20 = .ok (.istore 6, 2) := by decide +kernel
theorem d_M_swaps_22 : decode (ab_bc mt_M_swaps) 22 = .ok (.iload 5, 2) := by decide +kernel
theorem d_M_swaps_24 : decode (ab_bc mt_M_swaps) 24 = .ok (.ifCond .ne 9, 3) := by decide +kernel
theorem d_M_swaps_27 : decode (ab_bc mt_M_swaps) 27 = .ok (.iload 6, 2) := by decide +kernel
theorem d_M_swaps_29 : decode (ab_bc mt_M_swaps) 29 = .ok (.ifCond .ne 4, 3) := by decide +kernel
theorem d_M_swaps_32 : decode (ab_bc mt_M_swaps) 32 = .ok (.return_, 1) := by decide +kernel
theorem d_M_swaps_33 : decode (ab_bc mt_M_swaps) 33 = .ok (.bipush 99, 2) := by decide +kernel
theorem d_M_swaps_35 : decode (ab_bc mt_M_swaps) 35 = .ok (.iconst 5, 1) := by decide +kernel
theorem d_M_swaps_36 : decode (ab_bc mt_M_swaps) 36 = .ok (.aload_n 0, 1) := by decide +kernel
theorem d_M_swaps_37 : decode (ab_bc mt_M_swaps) 37 = .ok (.getfield 24, 3) := by decide +kernel
theorem d_M_swaps_40 : decode (ab_bc mt_M_swaps) 40 = .ok (.iconst 2, 1) := by decide +kernel
theorem d_M_swaps_41 : decode (ab_bc mt_M_swaps) 41 = .ok (.iaload, 1) := by decide +kernel
theorem d_M_swaps_42 : decode (ab_bc mt_M_swaps) 42 = .ok (.bipush 60, 2) := by decide +kernel
theorem d_M_swaps_44 : decode (ab_bc mt_M_swaps) 44 = .ok (.irem, 1) := by decide +kernel
theorem d_M_swaps_45 : decode (ab_bc mt_M_swaps) 45 = .ok (.imul, 1) := by decide +kernel
theorem d_M_swaps_46 : decode (ab_bc mt_M_swaps) 46 = .ok (.iadd, 1) := by decide +kernel
theorem d_M_swaps_47 : decode (ab_bc mt_M_swaps) 47 = .ok (.istore 7, 2) := by decide +kernel
theorem d_M_swaps_49 : decode (ab_bc mt_M_swaps) 49 = .ok (.aload_n 0, 1) := by decide +kernel
theorem d_M_swaps_50 : decode (ab_bc mt_M_swaps) 50 = .ok (.getfield 24, 3) := by decide +kernel
theorem d_M_swaps_53 : decode (ab_bc mt_M_swaps) 53 = .ok (.iload 7, 2) := by decide +kernel
theorem d_M_swaps_55 : decode (ab_bc mt_M_swaps) 55 = .ok (.iload_n 1, 1) := by decide +kernel
theorem d_M_swaps_56 : decode (ab_bc mt_M_swaps) 56 = .ok (.iastore, 1) := by decide +kernel
theorem d_M_swaps_57 : decode (ab_bc mt_M_swaps) 57 = .ok (.aload_n 0, 1) := by decide +kernel
theorem d_M_swaps_58 : decode (ab_bc mt_M_swaps) 58 = .ok (.getfield 24, 3) := by decide +kernel
theorem d_M_swaps_61 : decode (ab_bc mt_M_swaps) 61 = .ok (.iload 7, 2) := by decide +kernel
theorem d_M_swaps_63 : decode (ab_bc mt_M_swaps) 63 = .ok (.iconst 1, 1) := by decide +kernel
theorem d_M_swaps_64 : decode (ab_bc mt_M_swaps) 64 = .ok (.iadd, 1) := by decide +kernel
theorem d_M_swaps_65 : decode (ab_bc mt_M_swaps) 65 = .ok (.iload_n 2, 1) := by decide +kernel
theorem d_M_swaps_66 : decode (ab_bc mt_M_swaps) 66 = .ok (.iastore, 1) := by decide +kernel
theorem d_M_swaps_67 : decode (ab_bc mt_M_swaps) 67 = .ok (.aload_n 0, 1) := by decide +kernel
theorem d_M_swaps_68 : decode (ab_bc mt_M_swaps) 68 = .ok (.getfield 24, 3) := by decide +kernel
theorem d_M_swaps_71 : decode (ab_bc mt_M_swaps) 71 = .ok (.iload 7, 2) := by decide +kernel
theorem d_M_swaps_73 : decode (ab_bc mt_M_swaps) 73 = .ok (.iconst 2, 1) := by decide +kernel
theorem d_M_swaps_74 : decode (ab_bc mt_M_swaps) 74 = .ok (.iadd, 1) := by decide +kernel
theorem d_M_swaps_75 : decode (ab_bc mt_M_swaps) 75 = .ok (.iload 5, 2) := by decide +kernel
theorem d_M_swaps_77 : decode (ab_bc mt_M_swaps) 77 = .ok (.ifCond .ne 7, 3) := by decide +kernel
theorem d_M_swaps_80 : decode (ab_bc mt_M_swaps) 80 = .ok (.iconst (-1), 1) := by decide +kernel
theorem d_M_swaps_81 : decode (ab_bc mt_M_swaps) 81 = .ok (.goto 8, 3) := by decide +kernel
theorem d_M_swaps_84 : decode (ab_bc mt_M_swaps) 84 = .ok (.iload 5, 2) := by decide +kernel
theorem d_M_swaps_86 : decode (ab_bc mt_M_swaps) 86 = .ok (.invokestatic 257, 3) := by decide +kernel
theorem d_M_swaps_89 : decode (ab_bc mt_M_swaps) 89 = .ok (.iastore, 1) := by decide +kernel
theorem d_M_swaps_90 : decode (ab_bc mt_M_swaps) 90 = .ok (.aload_n 0, 1) := by decide +kernel
theorem d_M_swaps_91 : decode (ab_bc mt_M_swaps) 91 = .ok (.getfield 24, 3) := by decide +kernel
theorem d_M_swaps_94 : decode (ab_bc mt_M_swaps) 94 = .ok (.iload 7, 2) := by decide +kernel
theorem d_M_swaps_96 : decode (ab_bc mt_M_swaps) 96 = .ok (.iconst 3, 1) := by decide +kernel
theorem d_M_swaps_97 : decode (ab_bc mt_M_swaps) 97 = .ok (.iadd, 1) := by decide +kernel
theorem d_M_swaps_98 : decode (ab_bc mt_M_swaps) 98 = .ok (.iload 6, 2) := by decide +kernel
theorem d_M_swaps_100 : decode (ab_bc mt_M_swaps) 100 = .ok (.ifCond .ne 7, 3) := by decide +kernel
theorem d_M_swaps_103 : decode (ab_bc mt_M_swaps) 103 = .ok (.iconst (-1), 1) := by decide +kernel
theorem d_M_swaps_104 : decode (ab_bc mt_M_swaps) 104 = .ok (.goto 8, 3) := by decide +kernel
theorem d_M_swaps_107 : decode (ab_bc mt_M_swaps) 107 = .ok (.iload 6, 2) := by decide +kernel
theorem d_M_swaps_109 : decode (ab_bc mt_M_swaps) 109 = .ok (.invokestatic 257, 3) := by decide +kernel
theorem d_M_swaps_112 : decode (ab_bc mt_M_swaps) 112 = .ok (.iastore, 1) := by decide +kernel
theorem d_M_swaps_113 : decode (ab_bc mt_M_swaps) 113 = .ok (.aload_n 0, 1) := by decide +kernel
theorem d_M_swaps_114 : decode (ab_bc mt_M_swaps) 114 = .ok (.getfield 24, 3) := by decide +kernel
theorem d_M_swaps_117 : decode (ab_bc mt_M_swaps) 117 = .ok (.iload 7, 2) := by decide +kernel
theorem d_M_swaps_119 : decode (ab_bc mt_M_swaps) 119 = .ok (.iconst 4, 1) := by decide +kernel
theorem d_M_swaps_120 : decode (ab_bc mt_M_swaps) 120 = .ok (.iadd, 1) := by decide +kernel
theorem d_M_swaps_121 : decode (ab_bc mt_M_swaps) 121 = .ok (.aload_n 0, 1) := by decide +kernel
theorem d_M_swaps_122 : decode (ab_bc mt_M_swaps) 122 = .ok (.getfield 231, 3) := by decide +kernel
theorem d_M_swaps_125 : decode (ab_bc mt_M_swaps) 125 = .ok (.iastore, 1) := by decide +kernel
theorem d_M_swaps_126 : decode (ab_bc mt_M_swaps) 126 = .ok (.aload_n 0, 1) := by decide +kernel
theorem d_M_swaps_127 : decode (ab_bc mt_M_swaps) 127 = .ok (.getfield 24, 3) := by decide +kernel
theorem d_M_swaps_130 : decode (ab_bc mt_M_swaps) 130 = .ok (.iconst 2, 1) := by decide +kernel
theorem d_M_swaps_131 : decode (ab_bc mt_M_swaps) 131 = .ok (.dup2, 1) := by decide +kernel
theorem d_M_swaps_132 : decode (ab_bc mt_M_swaps) 132 = .ok (.iaload, 1) := by decide +kernel
theorem d_M_swaps_133 : decode (ab_bc mt_M_swaps) 133 = .ok (.iconst 1, 1) := by decide +kernel
theorem d_M_swaps_134 : decode (ab_bc mt_M_swaps) 134 = .ok (.iadd, 1) := by decide +kernel
theorem d_M_swaps_135 : decode (ab_bc mt_M_swaps) 135 = .ok (.iastore, 1) := by decide +kernel
theorem d_M_swaps_136 : decode (ab_bc mt_M_swaps) 136 = .ok (.return_, 1) := by decide +kernel
-- CableKeeperModel.swaps(III)V over mx
theorem q_M_swaps_0 {w : ab_Wd} {d n nc ns : Nat} {I : Nat → Nat → Int32} {L : Nat → Nat → Int64} {res : ab_Re} (v1 : Int32) (v2 : Int32) (v3 : Int32) (hc : nc ≤ res.2.2.2.2.2.1) (hs : ns ≤ res.2.2.2.2.2.2)
    (h : ∃ (r1 : Int32) (I2 : Nat → Nat → Int32), ab_C w d mt_M_netNow [.ref mx] (I, L, ab_RR, n, nc, ns) (.inl (some (.int r1)), (I2, L, ab_RR, n, nc, ns)) ∧ ((¬ (v3 &&& (r1 ^^^ (-1))) = 0 → (ab_E w (d + 1) mt_M_swaps 33 [.ref mx, .int v1, .int v2, .int v3, .int r1, .int (v3 &&& (r1 ^^^ (-1))), .int (r1 &&& (v3 ^^^ (-1))), .null] [] (I2, L, ab_RR, n, nc, ns) res)) ∧ ((v3 &&& (r1 ^^^ (-1))) = 0 → ((¬ (r1 &&& (v3 ^^^ (-1))) = 0 → (ab_E w (d + 1) mt_M_swaps 33 [.ref mx, .int v1, .int v2, .int v3, .int r1, .int (v3 &&& (r1 ^^^ (-1))), .int (r1 &&& (v3 ^^^ (-1))), .null] [] (I2, L, ab_RR, n, nc, ns) res)) ∧ ((r1 &&& (v3 ^^^ (-1))) = 0 → (res = (.inl none, (I2, L, ab_RR, n, nc, ns)))))))) : ab_E w (d + 1) mt_M_swaps 0 [.ref mx, .int v1, .int v2, .int v3, .null, .null, .null, .null] [] (I, L, ab_RR, n, nc, ns) res := by
  refine ab_aload_n (i := 0) d_M_swaps_0 rfl rfl ?_
  obtain ⟨r1, I2, hC, h⟩ := h
  refine ab_callV (me2 := mt_M_netNow) (b := mx) (as := []) (st := []) (rv := (some (.int r1))) (M2 := (I2, L, ab_RR, n, nc, ns)) d_M_swaps_1 ce_M_netNow v_1639 v_1641 v_80 (by decide) rfl (Nat.le_of_ble_eq_true rfl) hC (Nat.le_refl _) (Nat.le_refl _) hc hs (fun j h9 => by cases h9) (fun _ _ => rfl) ?_
  show ab_E w (d + 1) mt_M_swaps 4 [.ref mx, .int v1, .int v2, .int v3, .null, .null, .null, .null] [.int r1] (I2, L, ab_RR, n, nc, ns) res
  refine ab_istore (i := 4) d_M_swaps_4 (by decide) (Or.inr rfl) ?_
  refine ab_iload_n (i := 3) d_M_swaps_6 rfl rfl ?_
  refine ab_iload (i := 4) d_M_swaps_7 rfl ?_
  refine ab_iconst (v := (-1)) d_M_swaps_9 rfl ?_
  refine ab_ixor d_M_swaps_10 ?_
  refine ab_iand d_M_swaps_11 ?_
  refine ab_istore (i := 5) d_M_swaps_12 (by decide) (Or.inr rfl) ?_
  refine ab_iload (i := 4) d_M_swaps_14 rfl ?_
  refine ab_iload_n (i := 3) d_M_swaps_16 rfl rfl ?_
  refine ab_iconst (v := (-1)) d_M_swaps_17 rfl ?_
  refine ab_ixor d_M_swaps_18 ?_
  refine ab_iand d_M_swaps_19 ?_
  refine ab_istore (i := 6) d_M_swaps_20 (by decide) (Or.inr rfl) ?_
  refine ab_iload (i := 5) d_M_swaps_22 rfl ?_
  refine ab_if_ne (tgt := 33) d_M_swaps_24 (by decide) (fun c3 => ?_) (fun c3 => ?_)
  · have h := h.1 c3
    exact h
  · have h := h.2 c3
    refine ab_iload (i := 6) d_M_swaps_27 rfl ?_
    refine ab_if_ne (tgt := 33) d_M_swaps_29 (by decide) (fun c4 => ?_) (fun c4 => ?_)
    · have h := h.1 c4
      exact h
    · have h := h.2 c4
      exact ab_vret d_M_swaps_32 rfl h
theorem q_M_swaps_33 {w : ab_Wd} {d n nc ns : Nat} {I : Nat → Nat → Int32} {L : Nat → Nat → Int64} {res : ab_Re} (v1 : Int32) (v2 : Int32) (v3 : Int32) (v4 : Int32) (v5 : Int32) (v6 : Int32) (hc : nc ≤ res.2.2.2.2.2.1) (hs : ns ≤ res.2.2.2.2.2.2)
    (h : (vp_in (99 + (5 * ((I mx_now 2) - (I mx_now 2) / 60 * 60))) 399) ∧ (vp_in ((99 + (5 * ((I mx_now 2) - (I mx_now 2) / 60 * 60))) + 1) 399) ∧ ((¬ v5 = 0 → (∃ (r4 : Int32), ab_C w d mt_Integer_numberOfTrailingZeros [.int v5] ((ab_up (ab_up I mx_now (99 + (5 * ((I mx_now 2) - (I mx_now 2) / 60 * 60))).toNatClampNeg v1) mx_now ((99 + (5 * ((I mx_now 2) - (I mx_now 2) / 60 * 60))) + 1).toNatClampNeg v2), L, ab_RR, n, nc, ns) (.inl (some (.int r4)), ((ab_up (ab_up I mx_now (99 + (5 * ((I mx_now 2) - (I mx_now 2) / 60 * 60))).toNatClampNeg v1) mx_now ((99 + (5 * ((I mx_now 2) - (I mx_now 2) / 60 * 60))) + 1).toNatClampNeg v2), L, ab_RR, n, nc, ns)) ∧ ab_E w (d + 1) mt_M_swaps 89 [.ref mx, .int v1, .int v2, .int v3, .int v4, .int v5, .int v6, .int (99 + (5 * ((I mx_now 2) - (I mx_now 2) / 60 * 60)))] [.int r4, .int ((99 + (5 * ((I mx_now 2) - (I mx_now 2) / 60 * 60))) + 2), .ref mx_now] ((ab_up (ab_up I mx_now (99 + (5 * ((I mx_now 2) - (I mx_now 2) / 60 * 60))).toNatClampNeg v1) mx_now ((99 + (5 * ((I mx_now 2) - (I mx_now 2) / 60 * 60))) + 1).toNatClampNeg v2), L, ab_RR, n, nc, ns) res)) ∧ (v5 = 0 → (ab_E w (d + 1) mt_M_swaps 89 [.ref mx, .int v1, .int v2, .int v3, .int v4, .int v5, .int v6, .int (99 + (5 * ((I mx_now 2) - (I mx_now 2) / 60 * 60)))] [.int (-1), .int ((99 + (5 * ((I mx_now 2) - (I mx_now 2) / 60 * 60))) + 2), .ref mx_now] ((ab_up (ab_up I mx_now (99 + (5 * ((I mx_now 2) - (I mx_now 2) / 60 * 60))).toNatClampNeg v1) mx_now ((99 + (5 * ((I mx_now 2) - (I mx_now 2) / 60 * 60))) + 1).toNatClampNeg v2), L, ab_RR, n, nc, ns) res)))) : ab_E w (d + 1) mt_M_swaps 33 [.ref mx, .int v1, .int v2, .int v3, .int v4, .int v5, .int v6, .null] [] (I, L, ab_RR, n, nc, ns) res := by
  refine ab_bipush (v := 99) d_M_swaps_33 rfl ?_
  refine ab_iconst (v := 5) d_M_swaps_35 rfl ?_
  refine ab_aload_n (i := 0) d_M_swaps_36 rfl rfl ?_
  refine ab_getR (ci := 11) (k := 4) (j := mx_now) d_M_swaps_37 v_1372 rfl (by decide) (by decide) rfl r_mx_4 ?_
  refine ab_iconst (v := 2) d_M_swaps_40 rfl ?_
  refine ab_iald d_M_swaps_41 rfl rfl (by unfold vp_in; decide) ?_
  refine ab_bipush (v := 60) d_M_swaps_42 rfl ?_
  refine ab_irem d_M_swaps_44 (by decide) ?_
  refine ab_imul d_M_swaps_45 ?_
  refine ab_iadd d_M_swaps_46 ?_
  refine ab_istore (i := 7) d_M_swaps_47 (by decide) (Or.inr rfl) ?_
  refine ab_aload_n (i := 0) d_M_swaps_49 rfl rfl ?_
  refine ab_getR (ci := 11) (k := 4) (j := mx_now) d_M_swaps_50 v_1372 rfl (by decide) (by decide) rfl r_mx_4 ?_
  refine ab_iload (i := 7) d_M_swaps_53 rfl ?_
  refine ab_iload_n (i := 1) d_M_swaps_55 rfl rfl ?_
  have g1 := h.1; have h := h.2
  refine ab_iast d_M_swaps_56 rfl rfl g1 ?_
  refine ab_aload_n (i := 0) d_M_swaps_57 rfl rfl ?_
  refine ab_getR (ci := 11) (k := 4) (j := mx_now) d_M_swaps_58 v_1372 rfl (by decide) (by decide) rfl r_mx_4 ?_
  refine ab_iload (i := 7) d_M_swaps_61 rfl ?_
  refine ab_iconst (v := 1) d_M_swaps_63 rfl ?_
  refine ab_iadd d_M_swaps_64 ?_
  refine ab_iload_n (i := 2) d_M_swaps_65 rfl rfl ?_
  have g2 := h.1; have h := h.2
  refine ab_iast d_M_swaps_66 rfl rfl g2 ?_
  refine ab_aload_n (i := 0) d_M_swaps_67 rfl rfl ?_
  refine ab_getR (ci := 11) (k := 4) (j := mx_now) d_M_swaps_68 v_1372 rfl (by decide) (by decide) rfl r_mx_4 ?_
  refine ab_iload (i := 7) d_M_swaps_71 rfl ?_
  refine ab_iconst (v := 2) d_M_swaps_73 rfl ?_
  refine ab_iadd d_M_swaps_74 ?_
  refine ab_iload (i := 5) d_M_swaps_75 rfl ?_
  refine ab_if_ne (tgt := 84) d_M_swaps_77 (by decide) (fun c3 => ?_) (fun c3 => ?_)
  · have h := h.1 c3
    refine ab_iload (i := 5) d_M_swaps_84 rfl ?_
    obtain ⟨r4, hC, h⟩ := h
    refine ab_callS (me2 := mt_Integer_numberOfTrailingZeros) (as := [.int v5]) (st := [.int ((99 + (5 * ((I mx_now 2) - (I mx_now 2) / 60 * 60))) + 2), .ref mx_now]) (rv := (some (.int r4))) (M2 := ((ab_up (ab_up I mx_now (99 + (5 * ((I mx_now 2) - (I mx_now 2) / 60 * 60))).toNatClampNeg v1) mx_now ((99 + (5 * ((I mx_now 2) - (I mx_now 2) / 60 * 60))) + 1).toNatClampNeg v2), L, ab_RR, n, nc, ns)) d_M_swaps_86 ce_Integer_numberOfTrailingZeros ⟨v_1917, Or.inl v_1916⟩ (Nat.le_of_ble_eq_true rfl) hC (Nat.le_refl _) (Nat.le_refl _) hc hs (fun j h9 => by cases h9) (fun _ _ => rfl) ?_
    show ab_E w (d + 1) mt_M_swaps 89 [.ref mx, .int v1, .int v2, .int v3, .int v4, .int v5, .int v6, .int (99 + (5 * ((I mx_now 2) - (I mx_now 2) / 60 * 60)))] [.int r4, .int ((99 + (5 * ((I mx_now 2) - (I mx_now 2) / 60 * 60))) + 2), .ref mx_now] ((ab_up (ab_up I mx_now (99 + (5 * ((I mx_now 2) - (I mx_now 2) / 60 * 60))).toNatClampNeg v1) mx_now ((99 + (5 * ((I mx_now 2) - (I mx_now 2) / 60 * 60))) + 1).toNatClampNeg v2), L, ab_RR, n, nc, ns) res
    exact h
  · have h := h.2 c3
    refine ab_iconst (v := (-1)) d_M_swaps_80 rfl ?_
    refine ab_goto (tgt := 89) d_M_swaps_81 (by decide) ?_
    exact h
theorem q_M_swaps_89 {w : ab_Wd} {d n nc ns : Nat} {I : Nat → Nat → Int32} {L : Nat → Nat → Int64} {res : ab_Re} (v1 : Int32) (v2 : Int32) (v3 : Int32) (v4 : Int32) (v5 : Int32) (v6 : Int32) (v7 : Int32) (s1 : Int32) (s2 : Int32) (hc : nc ≤ res.2.2.2.2.2.1) (hs : ns ≤ res.2.2.2.2.2.2)
    (h : (vp_in s1 399) ∧ ((¬ v6 = 0 → (∃ (r3 : Int32), ab_C w d mt_Integer_numberOfTrailingZeros [.int v6] ((ab_up I mx_now s1.toNatClampNeg s2), L, ab_RR, n, nc, ns) (.inl (some (.int r3)), ((ab_up I mx_now s1.toNatClampNeg s2), L, ab_RR, n, nc, ns)) ∧ ab_E w (d + 1) mt_M_swaps 112 [.ref mx, .int v1, .int v2, .int v3, .int v4, .int v5, .int v6, .int v7] [.int r3, .int (v7 + 3), .ref mx_now] ((ab_up I mx_now s1.toNatClampNeg s2), L, ab_RR, n, nc, ns) res)) ∧ (v6 = 0 → (ab_E w (d + 1) mt_M_swaps 112 [.ref mx, .int v1, .int v2, .int v3, .int v4, .int v5, .int v6, .int v7] [.int (-1), .int (v7 + 3), .ref mx_now] ((ab_up I mx_now s1.toNatClampNeg s2), L, ab_RR, n, nc, ns) res)))) : ab_E w (d + 1) mt_M_swaps 89 [.ref mx, .int v1, .int v2, .int v3, .int v4, .int v5, .int v6, .int v7] [.int s2, .int s1, .ref mx_now] (I, L, ab_RR, n, nc, ns) res := by
  have g1 := h.1; have h := h.2
  refine ab_iast d_M_swaps_89 rfl rfl g1 ?_
  refine ab_aload_n (i := 0) d_M_swaps_90 rfl rfl ?_
  refine ab_getR (ci := 11) (k := 4) (j := mx_now) d_M_swaps_91 v_1372 rfl (by decide) (by decide) rfl r_mx_4 ?_
  refine ab_iload (i := 7) d_M_swaps_94 rfl ?_
  refine ab_iconst (v := 3) d_M_swaps_96 rfl ?_
  refine ab_iadd d_M_swaps_97 ?_
  refine ab_iload (i := 6) d_M_swaps_98 rfl ?_
  refine ab_if_ne (tgt := 107) d_M_swaps_100 (by decide) (fun c2 => ?_) (fun c2 => ?_)
  · have h := h.1 c2
    refine ab_iload (i := 6) d_M_swaps_107 rfl ?_
    obtain ⟨r3, hC, h⟩ := h
    refine ab_callS (me2 := mt_Integer_numberOfTrailingZeros) (as := [.int v6]) (st := [.int (v7 + 3), .ref mx_now]) (rv := (some (.int r3))) (M2 := ((ab_up I mx_now s1.toNatClampNeg s2), L, ab_RR, n, nc, ns)) d_M_swaps_109 ce_Integer_numberOfTrailingZeros ⟨v_1917, Or.inl v_1916⟩ (Nat.le_of_ble_eq_true rfl) hC (Nat.le_refl _) (Nat.le_refl _) hc hs (fun j h9 => by cases h9) (fun _ _ => rfl) ?_
    show ab_E w (d + 1) mt_M_swaps 112 [.ref mx, .int v1, .int v2, .int v3, .int v4, .int v5, .int v6, .int v7] [.int r3, .int (v7 + 3), .ref mx_now] ((ab_up I mx_now s1.toNatClampNeg s2), L, ab_RR, n, nc, ns) res
    exact h
  · have h := h.2 c2
    refine ab_iconst (v := (-1)) d_M_swaps_103 rfl ?_
    refine ab_goto (tgt := 112) d_M_swaps_104 (by decide) ?_
    exact h
theorem q_M_swaps_112 {w : ab_Wd} {d n nc ns : Nat} {I : Nat → Nat → Int32} {L : Nat → Nat → Int64} {res : ab_Re} (v1 : Int32) (v2 : Int32) (v3 : Int32) (v4 : Int32) (v5 : Int32) (v6 : Int32) (v7 : Int32) (s1 : Int32) (s2 : Int32) (hc : nc ≤ res.2.2.2.2.2.1) (hs : ns ≤ res.2.2.2.2.2.2)
    (h : (vp_in s1 399) ∧ (vp_in (v7 + 4) 399) ∧ res = (.inl none, ((ab_up (ab_up (ab_up I mx_now s1.toNatClampNeg s2) mx_now (v7 + 4).toNatClampNeg (I mx 22)) mx_now 2 (((ab_up (ab_up I mx_now s1.toNatClampNeg s2) mx_now (v7 + 4).toNatClampNeg (I mx 22)) mx_now 2) + 1)), L, ab_RR, n, nc, ns))) : ab_E w (d + 1) mt_M_swaps 112 [.ref mx, .int v1, .int v2, .int v3, .int v4, .int v5, .int v6, .int v7] [.int s2, .int s1, .ref mx_now] (I, L, ab_RR, n, nc, ns) res := by
  have g1 := h.1; have h := h.2
  refine ab_iast d_M_swaps_112 rfl rfl g1 ?_
  refine ab_aload_n (i := 0) d_M_swaps_113 rfl rfl ?_
  refine ab_getR (ci := 11) (k := 4) (j := mx_now) d_M_swaps_114 v_1372 rfl (by decide) (by decide) rfl r_mx_4 ?_
  refine ab_iload (i := 7) d_M_swaps_117 rfl ?_
  refine ab_iconst (v := 4) d_M_swaps_119 rfl ?_
  refine ab_iadd d_M_swaps_120 ?_
  refine ab_aload_n (i := 0) d_M_swaps_121 rfl rfl ?_
  refine ab_getI (ci := 11) (k := 22) d_M_swaps_122 v_1390 rfl (by decide) (by decide) rfl ?_
  have g2 := h.1; have h := h.2
  refine ab_iast d_M_swaps_125 rfl rfl g2 ?_
  refine ab_aload_n (i := 0) d_M_swaps_126 rfl rfl ?_
  refine ab_getR (ci := 11) (k := 4) (j := mx_now) d_M_swaps_127 v_1372 rfl (by decide) (by decide) rfl r_mx_4 ?_
  refine ab_iconst (v := 2) d_M_swaps_130 rfl ?_
  refine ab_dup2 d_M_swaps_131 ?_
  refine ab_iald d_M_swaps_132 rfl rfl (by unfold vp_in; decide) ?_
  refine ab_iconst (v := 1) d_M_swaps_133 rfl ?_
  refine ab_iadd d_M_swaps_134 ?_
  refine ab_iast d_M_swaps_135 rfl rfl (by unfold vp_in; decide) ?_
  exact ab_vret d_M_swaps_136 rfl h
theorem d_M_pricesNow_0 : decode (ab_bc mt_M_pricesNow) 0 = .ok (.aload_n 0, 1) := by decide +kernel
theorem d_M_pricesNow_1 : decode (ab_bc mt_M_pricesNow) 1 = .ok (.iload_n 1, 1) := by decide +kernel
theorem d_M_pricesNow_2 : decode (ab_bc mt_M_pricesNow) 2 = .ok (.invokevirtual 222, 3) := by decide +kernel
theorem d_M_pricesNow_5 : decode (ab_bc mt_M_pricesNow) 5 = .ok (.istore_n 3, 1) := by decide +kernel
theorem d_M_pricesNow_6 : decode (ab_bc mt_M_pricesNow) 6 = .ok (.iload_n 2, 1) := by decide +kernel
theorem d_M_pricesNow_7 : decode (ab_bc mt_M_pricesNow) 7 = .ok (.iload_n 3, 1) := by decide +kernel
theorem d_M_pricesNow_8 : decode (ab_bc mt_M_pricesNow) 8 = .ok (.if_icmp .ne 4, 3) := by decide +kernel
theorem d_M_pricesNow_11 : decode (ab_bc mt_M_pricesNow) 11 = .ok (.return_, 1) := by decide +kernel
theorem d_M_pricesNow_12 : decode (ab_bc mt_M_pricesNow) 12 = .ok (.aload_n 0, 1) := by decide +kernel
theorem d_M_pricesNow_13 : decode (ab_bc mt_M_pricesNow) 13 = .ok (.invokevirtual 251, 3) := by decide +kernel
theorem d_M_pricesNow_16 : decode (ab_bc mt_M_pricesNow) 16 = .ok (.istore 4, 2) := by decide +kernel
theorem d_M_pricesNow_18 : decode (ab_bc mt_M_pricesNow) 18 = .ok (.aload_n 0, 1) := by decide +kernel
theorem d_M_pricesNow_19 : decode (ab_bc mt_M_pricesNow) 19 = .ok (.getfield 24, 3) := by decide +kernel
theorem d_M_pricesNow_22 : decode (ab_bc mt_M_pricesNow) 22 = .ok (.bipush 51, 2) := by decide +kernel
theorem d_M_pricesNow_24 : decode (ab_bc mt_M_pricesNow) 24 = .ok (.iload_n 1, 1) := by decide +kernel
theorem d_M_pricesNow_25 : decode (ab_bc mt_M_pricesNow) 25 = .ok (.iadd, 1) := by decide +kernel
theorem d_M_pricesNow_26 : decode (ab_bc mt_M_pricesNow) 26 = .ok (.iload_n 2, 1) := by decide +kernel
theorem d_M_pricesNow_27 : decode (ab_bc mt_M_pricesNow) 27 = .ok (.iastore, 1) := by decide +kernel
theorem d_M_pricesNow_28 : decode (ab_bc mt_M_pricesNow) 28 = .ok (.aload_n 0, 1) := by decide +kernel
theorem d_M_pricesNow_29 : decode (ab_bc mt_M_pricesNow) 29 = .ok (.iload_n 1, 1) := by decide +kernel
theorem d_M_pricesNow_30 : decode (ab_bc mt_M_pricesNow) 30 = .ok (.invokevirtual 262, 3) := by decide +kernel
theorem d_M_pricesNow_33 : decode (ab_bc mt_M_pricesNow) 33 = .ok (.ifCond .eq 20, 3) := by decide +kernel
theorem d_M_pricesNow_36 : decode (ab_bc mt_M_pricesNow) 36 = .ok (.aload_n 0, 1) := by decide +kernel
theorem d_M_pricesNow_37 : decode (ab_bc mt_M_pricesNow) 37 = .ok (.iload_n 2, 1) := by decide +kernel
theorem d_M_pricesNow_38 : decode (ab_bc mt_M_pricesNow) 38 = .ok (.iload_n 3, 1) := by decide +kernel
theorem d_M_pricesNow_39 : decode (ab_bc mt_M_pricesNow) 39 = .ok (.if_icmp .le 7, 3) := by decide +kernel
theorem d_M_pricesNow_42 : decode (ab_bc mt_M_pricesNow) 42 = .ok (.iconst 1, 1) := by decide +kernel
theorem d_M_pricesNow_43 : decode (ab_bc mt_M_pricesNow) 43 = .ok (.goto 4, 3) := by decide +kernel
theorem d_M_pricesNow_46 : decode (ab_bc mt_M_pricesNow) 46 = .ok (.iconst 2, 1) := by decide +kernel
theorem d_M_pricesNow_47 : decode (ab_bc mt_M_pricesNow) 47 = .ok (.iload_n 1, 1) := by decide +kernel
theorem d_M_pricesNow_48 : decode (ab_bc mt_M_pricesNow) 48 = .ok (.iload 4, 2) := by decide +kernel
theorem d_M_pricesNow_50 : decode (ab_bc mt_M_pricesNow) 50 = .ok (.invokevirtual 265, 3) := by decide +kernel
theorem d_M_pricesNow_53 : decode (ab_bc mt_M_pricesNow) 53 = .ok (.return_, 1) := by decide +kernel
-- CableKeeperModel.pricesNow(II)V over mx
theorem q_M_pricesNow_0 {w : ab_Wd} {d n nc ns : Nat} {I : Nat → Nat → Int32} {L : Nat → Nat → Int64} {res : ab_Re} (v1 : Int32) (v2 : Int32) (hc : nc ≤ res.2.2.2.2.2.1) (hs : ns ≤ res.2.2.2.2.2.2)
    (h : ∃ (r1 : Int32), ab_C w d mt_M_priceOf [.ref mx, .int v1] (I, L, ab_RR, n, nc, ns) (.inl (some (.int r1)), (I, L, ab_RR, n, nc, ns)) ∧ ((¬ v2 = r1 → (∃ (r3 : Int32) (I4 : Nat → Nat → Int32), ab_C w d mt_M_netNow [.ref mx] (I, L, ab_RR, n, nc, ns) (.inl (some (.int r3)), (I4, L, ab_RR, n, nc, ns)) ∧ (vp_in (51 + v1) 399) ∧ ∃ (r6 : Int32), ab_C w d mt_M_isSound [.ref mx, .int v1] ((ab_up I4 mx_now (51 + v1).toNatClampNeg v2), L, ab_RR, n, nc, ns) (.inl (some (.int r6)), ((ab_up I4 mx_now (51 + v1).toNatClampNeg v2), L, ab_RR, n, nc, ns)) ∧ ((r6 = 0 → (ab_E w (d + 1) mt_M_pricesNow 53 [.ref mx, .int v1, .int v2, .int r1, .int r3] [] ((ab_up I4 mx_now (51 + v1).toNatClampNeg v2), L, ab_RR, n, nc, ns) res)) ∧ (¬ r6 = 0 → ((v2 ≤ r1 → (ab_E w (d + 1) mt_M_pricesNow 47 [.ref mx, .int v1, .int v2, .int r1, .int r3] [.int 2, .ref mx] ((ab_up I4 mx_now (51 + v1).toNatClampNeg v2), L, ab_RR, n, nc, ns) res)) ∧ (¬ v2 ≤ r1 → (ab_E w (d + 1) mt_M_pricesNow 47 [.ref mx, .int v1, .int v2, .int r1, .int r3] [.int 1, .ref mx] ((ab_up I4 mx_now (51 + v1).toNatClampNeg v2), L, ab_RR, n, nc, ns) res))))))) ∧ (v2 = r1 → (res = (.inl none, (I, L, ab_RR, n, nc, ns)))))) : ab_E w (d + 1) mt_M_pricesNow 0 [.ref mx, .int v1, .int v2, .null, .null] [] (I, L, ab_RR, n, nc, ns) res := by
  refine ab_aload_n (i := 0) d_M_pricesNow_0 rfl rfl ?_
  refine ab_iload_n (i := 1) d_M_pricesNow_1 rfl rfl ?_
  obtain ⟨r1, hC, h⟩ := h
  refine ab_callV (me2 := mt_M_priceOf) (b := mx) (as := [.int v1]) (st := []) (rv := (some (.int r1))) (M2 := (I, L, ab_RR, n, nc, ns)) d_M_pricesNow_2 ce_M_priceOf v_1654 v_1656 v_83 (by decide) rfl (Nat.le_of_ble_eq_true rfl) hC (Nat.le_refl _) (Nat.le_refl _) hc hs (fun j h9 => by cases h9) (fun _ _ => rfl) ?_
  show ab_E w (d + 1) mt_M_pricesNow 5 [.ref mx, .int v1, .int v2, .null, .null] [.int r1] (I, L, ab_RR, n, nc, ns) res
  refine ab_istore_n (i := 3) d_M_pricesNow_5 rfl (by decide) (Or.inr rfl) ?_
  refine ab_iload_n (i := 2) d_M_pricesNow_6 rfl rfl ?_
  refine ab_iload_n (i := 3) d_M_pricesNow_7 rfl rfl ?_
  refine ab_icmp_ne (tgt := 12) d_M_pricesNow_8 (by decide) (fun c2 => ?_) (fun c2 => ?_)
  · have h := h.1 c2
    refine ab_aload_n (i := 0) d_M_pricesNow_12 rfl rfl ?_
    obtain ⟨r3, I4, hC, h⟩ := h
    refine ab_callV (me2 := mt_M_netNow) (b := mx) (as := []) (st := []) (rv := (some (.int r3))) (M2 := (I4, L, ab_RR, n, nc, ns)) d_M_pricesNow_13 ce_M_netNow v_1639 v_1641 v_80 (by decide) rfl (Nat.le_of_ble_eq_true rfl) hC (Nat.le_refl _) (Nat.le_refl _) hc hs (fun j h9 => by cases h9) (fun _ _ => rfl) ?_
    show ab_E w (d + 1) mt_M_pricesNow 16 [.ref mx, .int v1, .int v2, .int r1, .null] [.int r3] (I4, L, ab_RR, n, nc, ns) res
    refine ab_istore (i := 4) d_M_pricesNow_16 (by decide) (Or.inr rfl) ?_
    refine ab_aload_n (i := 0) d_M_pricesNow_18 rfl rfl ?_
    refine ab_getR (ci := 11) (k := 4) (j := mx_now) d_M_pricesNow_19 v_1372 rfl (by decide) (by decide) rfl r_mx_4 ?_
    refine ab_bipush (v := 51) d_M_pricesNow_22 rfl ?_
    refine ab_iload_n (i := 1) d_M_pricesNow_24 rfl rfl ?_
    refine ab_iadd d_M_pricesNow_25 ?_
    refine ab_iload_n (i := 2) d_M_pricesNow_26 rfl rfl ?_
    have g5 := h.1; have h := h.2
    refine ab_iast d_M_pricesNow_27 rfl rfl g5 ?_
    refine ab_aload_n (i := 0) d_M_pricesNow_28 rfl rfl ?_
    refine ab_iload_n (i := 1) d_M_pricesNow_29 rfl rfl ?_
    obtain ⟨r6, hC, h⟩ := h
    refine ab_callV (me2 := mt_M_isSound) (b := mx) (as := [.int v1]) (st := []) (rv := (some (.int r6))) (M2 := ((ab_up I4 mx_now (51 + v1).toNatClampNeg v2), L, ab_RR, n, nc, ns)) d_M_pricesNow_30 ce_M_isSound v_1679 v_1681 v_89 (by decide) rfl (Nat.le_of_ble_eq_true rfl) hC (Nat.le_refl _) (Nat.le_refl _) hc hs (fun j h9 => by cases h9) (fun _ _ => rfl) ?_
    show ab_E w (d + 1) mt_M_pricesNow 33 [.ref mx, .int v1, .int v2, .int r1, .int r3] [.int r6] ((ab_up I4 mx_now (51 + v1).toNatClampNeg v2), L, ab_RR, n, nc, ns) res
    refine ab_if_eq (tgt := 53) d_M_pricesNow_33 (by decide) (fun c7 => ?_) (fun c7 => ?_)
    · have h := h.1 c7
      exact h
    · have h := h.2 c7
      refine ab_aload_n (i := 0) d_M_pricesNow_36 rfl rfl ?_
      refine ab_iload_n (i := 2) d_M_pricesNow_37 rfl rfl ?_
      refine ab_iload_n (i := 3) d_M_pricesNow_38 rfl rfl ?_
      refine ab_icmp_le (tgt := 46) d_M_pricesNow_39 (by decide) (fun c8 => ?_) (fun c8 => ?_)
      · have h := h.1 c8
        refine ab_iconst (v := 2) d_M_pricesNow_46 rfl ?_
        exact h
      · have h := h.2 c8
        refine ab_iconst (v := 1) d_M_pricesNow_42 rfl ?_
        refine ab_goto (tgt := 47) d_M_pricesNow_43 (by decide) ?_
        exact h
  · have h := h.2 c2
    exact ab_vret d_M_pricesNow_11 rfl h
theorem q_M_pricesNow_47 {w : ab_Wd} {d n nc ns : Nat} {I : Nat → Nat → Int32} {L : Nat → Nat → Int64} {res : ab_Re} (v1 : Int32) (v2 : Int32) (v3 : Int32) (v4 : Int32) (s1 : Int32) (hc : nc ≤ res.2.2.2.2.2.1) (hs : ns ≤ res.2.2.2.2.2.2)
    (h : ∃ (I2 : Nat → Nat → Int32), ab_C w d mt_M_swaps [.ref mx, .int s1, .int v1, .int v4] (I, L, ab_RR, n, nc, ns) (.inl none, (I2, L, ab_RR, n, nc, ns)) ∧ ab_E w (d + 1) mt_M_pricesNow 53 [.ref mx, .int v1, .int v2, .int v3, .int v4] [] (I2, L, ab_RR, n, nc, ns) res) : ab_E w (d + 1) mt_M_pricesNow 47 [.ref mx, .int v1, .int v2, .int v3, .int v4] [.int s1, .ref mx] (I, L, ab_RR, n, nc, ns) res := by
  refine ab_iload_n (i := 1) d_M_pricesNow_47 rfl rfl ?_
  refine ab_iload (i := 4) d_M_pricesNow_48 rfl ?_
  obtain ⟨I2, hC, h⟩ := h
  refine ab_callV (me2 := mt_M_swaps) (b := mx) (as := [.int s1, .int v1, .int v4]) (st := []) (rv := none) (M2 := (I2, L, ab_RR, n, nc, ns)) d_M_pricesNow_50 ce_M_swaps v_1912 v_1914 v_131 (by decide) rfl (Nat.le_of_ble_eq_true rfl) hC (Nat.le_refl _) (Nat.le_refl _) hc hs (fun j h9 => by cases h9) (fun _ _ => rfl) ?_
  show ab_E w (d + 1) mt_M_pricesNow 53 [.ref mx, .int v1, .int v2, .int v3, .int v4] [] (I2, L, ab_RR, n, nc, ns) res
  exact h
theorem q_M_pricesNow_53 {w : ab_Wd} {d n nc ns : Nat} {I : Nat → Nat → Int32} {L : Nat → Nat → Int64} {res : ab_Re} (v1 : Int32) (v2 : Int32) (v3 : Int32) (v4 : Int32) (hc : nc ≤ res.2.2.2.2.2.1) (hs : ns ≤ res.2.2.2.2.2.2)
    (h : res = (.inl none, (I, L, ab_RR, n, nc, ns))) : ab_E w (d + 1) mt_M_pricesNow 53 [.ref mx, .int v1, .int v2, .int v3, .int v4] [] (I, L, ab_RR, n, nc, ns) res := by
  exact ab_vret d_M_pricesNow_53 rfl h
theorem d_M_turnsNow_0 : decode (ab_bc mt_M_turnsNow) 0 = .ok (.aload_n 0, 1) := by decide +kernel
theorem d_M_turnsNow_1 : decode (ab_bc mt_M_turnsNow) 1 = .ok (.invokevirtual 251, 3) := by decide +kernel
theorem d_M_turnsNow_4 : decode (ab_bc mt_M_turnsNow) 4 = .ok (.istore_n 2, 1) := by decide +kernel
theorem d_M_turnsNow_5 : decode (ab_bc mt_M_turnsNow) 5 = .ok (.aload_n 0, 1) := by decide +kernel
theorem d_M_turnsNow_6 : decode (ab_bc mt_M_turnsNow) 6 = .ok (.getfield 24, 3) := by decide +kernel
theorem d_M_turnsNow_9 : decode (ab_bc mt_M_turnsNow) 9 = .ok (.iconst 1, 1) := by decide +kernel
theorem d_M_turnsNow_10 : decode (ab_bc mt_M_turnsNow) 10 = .ok (.dup2, 1) := by decide +kernel
theorem d_M_turnsNow_11 : decode (ab_bc mt_M_turnsNow) 11 = .ok (.iaload, 1) := by decide +kernel
theorem d_M_turnsNow_12 : decode (ab_bc mt_M_turnsNow) 12 = .ok (.iconst 1, 1) := by decide +kernel
theorem d_M_turnsNow_13 : decode (ab_bc mt_M_turnsNow) 13 = .ok (.iload_n 1, 1) := by decide +kernel
theorem d_M_turnsNow_14 : decode (ab_bc mt_M_turnsNow) 14 = .ok (.ishl, 1) := by decide +kernel
theorem d_M_turnsNow_15 : decode (ab_bc mt_M_turnsNow) 15 = .ok (.ixor, 1) := by decide +kernel
theorem d_M_turnsNow_16 : decode (ab_bc mt_M_turnsNow) 16 = .ok (.iastore, 1) := by decide +kernel
theorem d_M_turnsNow_17 : decode (ab_bc mt_M_turnsNow) 17 = .ok (.aload_n 0, 1) := by decide +kernel
theorem d_M_turnsNow_18 : decode (ab_bc mt_M_turnsNow) 18 = .ok (.aload_n 0, 1) := by decide +kernel
theorem d_M_turnsNow_19 : decode (ab_bc mt_M_turnsNow) 19 = .ok (.iload_n 1, 1) := by decide +kernel
theorem d_M_turnsNow_20 : decode (ab_bc mt_M_turnsNow) 20 = .ok (.invokevirtual 262, 3) := by decide +kernel
theorem d_M_turnsNow_23 : decode (ab_bc mt_M_turnsNow) 23 = .ok (.ifCond .eq 7, 3) := by decide +kernel
theorem d_M_turnsNow_26 : decode (ab_bc mt_M_turnsNow) 26 = .ok (.iconst 4, 1) := by decide +kernel
theorem d_M_turnsNow_27 : decode (ab_bc mt_M_turnsNow) 27 = .ok (.goto 4, 3) := by decide +kernel
theorem d_M_turnsNow_30 : decode (ab_bc mt_M_turnsNow) 30 = .ok (.iconst 3, 1) := by decide +kernel
theorem d_M_turnsNow_31 : decode (ab_bc mt_M_turnsNow) 31 = .ok (.iload_n 1, 1) := by decide +kernel
theorem d_M_turnsNow_32 : decode (ab_bc mt_M_turnsNow) 32 = .ok (.iload_n 2, 1) := by decide +kernel
theorem d_M_turnsNow_33 : decode (ab_bc mt_M_turnsNow) 33 = .ok (.invokevirtual 265, 3) := by decide +kernel
theorem d_M_turnsNow_36 : decode (ab_bc mt_M_turnsNow) 36 = .ok (.return_, 1) := by decide +kernel
-- CableKeeperModel.turnsNow(I)V over mx
theorem q_M_turnsNow_0 {w : ab_Wd} {d n nc ns : Nat} {I : Nat → Nat → Int32} {L : Nat → Nat → Int64} {res : ab_Re} (v1 : Int32) (hc : nc ≤ res.2.2.2.2.2.1) (hs : ns ≤ res.2.2.2.2.2.2)
    (h : ∃ (r1 : Int32) (I2 : Nat → Nat → Int32), ab_C w d mt_M_netNow [.ref mx] (I, L, ab_RR, n, nc, ns) (.inl (some (.int r1)), (I2, L, ab_RR, n, nc, ns)) ∧ ∃ (r3 : Int32), ab_C w d mt_M_isSound [.ref mx, .int v1] ((ab_up I2 mx_now 1 ((I2 mx_now 1) ^^^ ((1 : Int32) <<< (v1 &&& 31)))), L, ab_RR, n, nc, ns) (.inl (some (.int r3)), ((ab_up I2 mx_now 1 ((I2 mx_now 1) ^^^ ((1 : Int32) <<< (v1 &&& 31)))), L, ab_RR, n, nc, ns)) ∧ ((r3 = 0 → (ab_E w (d + 1) mt_M_turnsNow 31 [.ref mx, .int v1, .int r1] [.int 3, .ref mx] ((ab_up I2 mx_now 1 ((I2 mx_now 1) ^^^ ((1 : Int32) <<< (v1 &&& 31)))), L, ab_RR, n, nc, ns) res)) ∧ (¬ r3 = 0 → (ab_E w (d + 1) mt_M_turnsNow 31 [.ref mx, .int v1, .int r1] [.int 4, .ref mx] ((ab_up I2 mx_now 1 ((I2 mx_now 1) ^^^ ((1 : Int32) <<< (v1 &&& 31)))), L, ab_RR, n, nc, ns) res)))) : ab_E w (d + 1) mt_M_turnsNow 0 [.ref mx, .int v1, .null] [] (I, L, ab_RR, n, nc, ns) res := by
  refine ab_aload_n (i := 0) d_M_turnsNow_0 rfl rfl ?_
  obtain ⟨r1, I2, hC, h⟩ := h
  refine ab_callV (me2 := mt_M_netNow) (b := mx) (as := []) (st := []) (rv := (some (.int r1))) (M2 := (I2, L, ab_RR, n, nc, ns)) d_M_turnsNow_1 ce_M_netNow v_1639 v_1641 v_80 (by decide) rfl (Nat.le_of_ble_eq_true rfl) hC (Nat.le_refl _) (Nat.le_refl _) hc hs (fun j h9 => by cases h9) (fun _ _ => rfl) ?_
  show ab_E w (d + 1) mt_M_turnsNow 4 [.ref mx, .int v1, .null] [.int r1] (I2, L, ab_RR, n, nc, ns) res
  refine ab_istore_n (i := 2) d_M_turnsNow_4 rfl (by decide) (Or.inr rfl) ?_
  refine ab_aload_n (i := 0) d_M_turnsNow_5 rfl rfl ?_
  refine ab_getR (ci := 11) (k := 4) (j := mx_now) d_M_turnsNow_6 v_1372 rfl (by decide) (by decide) rfl r_mx_4 ?_
  refine ab_iconst (v := 1) d_M_turnsNow_9 rfl ?_
  refine ab_dup2 d_M_turnsNow_10 ?_
  refine ab_iald d_M_turnsNow_11 rfl rfl (by unfold vp_in; decide) ?_
  refine ab_iconst (v := 1) d_M_turnsNow_12 rfl ?_
  refine ab_iload_n (i := 1) d_M_turnsNow_13 rfl rfl ?_
  refine ab_ishl d_M_turnsNow_14 ?_
  refine ab_ixor d_M_turnsNow_15 ?_
  refine ab_iast d_M_turnsNow_16 rfl rfl (by unfold vp_in; decide) ?_
  refine ab_aload_n (i := 0) d_M_turnsNow_17 rfl rfl ?_
  refine ab_aload_n (i := 0) d_M_turnsNow_18 rfl rfl ?_
  refine ab_iload_n (i := 1) d_M_turnsNow_19 rfl rfl ?_
  obtain ⟨r3, hC, h⟩ := h
  refine ab_callV (me2 := mt_M_isSound) (b := mx) (as := [.int v1]) (st := [.ref mx]) (rv := (some (.int r3))) (M2 := ((ab_up I2 mx_now 1 ((I2 mx_now 1) ^^^ ((1 : Int32) <<< (v1 &&& 31)))), L, ab_RR, n, nc, ns)) d_M_turnsNow_20 ce_M_isSound v_1679 v_1681 v_89 (by decide) rfl (Nat.le_of_ble_eq_true rfl) hC (Nat.le_refl _) (Nat.le_refl _) hc hs (fun j h9 => by cases h9) (fun _ _ => rfl) ?_
  show ab_E w (d + 1) mt_M_turnsNow 23 [.ref mx, .int v1, .int r1] [.int r3, .ref mx] ((ab_up I2 mx_now 1 ((I2 mx_now 1) ^^^ ((1 : Int32) <<< (v1 &&& 31)))), L, ab_RR, n, nc, ns) res
  refine ab_if_eq (tgt := 30) d_M_turnsNow_23 (by decide) (fun c4 => ?_) (fun c4 => ?_)
  · have h := h.1 c4
    refine ab_iconst (v := 3) d_M_turnsNow_30 rfl ?_
    exact h
  · have h := h.2 c4
    refine ab_iconst (v := 4) d_M_turnsNow_26 rfl ?_
    refine ab_goto (tgt := 31) d_M_turnsNow_27 (by decide) ?_
    exact h
theorem q_M_turnsNow_31 {w : ab_Wd} {d n nc ns : Nat} {I : Nat → Nat → Int32} {L : Nat → Nat → Int64} {res : ab_Re} (v1 : Int32) (v2 : Int32) (s1 : Int32) (hc : nc ≤ res.2.2.2.2.2.1) (hs : ns ≤ res.2.2.2.2.2.2)
    (h : ∃ (I2 : Nat → Nat → Int32), ab_C w d mt_M_swaps [.ref mx, .int s1, .int v1, .int v2] (I, L, ab_RR, n, nc, ns) (.inl none, (I2, L, ab_RR, n, nc, ns)) ∧ res = (.inl none, (I2, L, ab_RR, n, nc, ns))) : ab_E w (d + 1) mt_M_turnsNow 31 [.ref mx, .int v1, .int v2] [.int s1, .ref mx] (I, L, ab_RR, n, nc, ns) res := by
  refine ab_iload_n (i := 1) d_M_turnsNow_31 rfl rfl ?_
  refine ab_iload_n (i := 2) d_M_turnsNow_32 rfl rfl ?_
  obtain ⟨I2, hC, h⟩ := h
  refine ab_callV (me2 := mt_M_swaps) (b := mx) (as := [.int s1, .int v1, .int v2]) (st := []) (rv := none) (M2 := (I2, L, ab_RR, n, nc, ns)) d_M_turnsNow_33 ce_M_swaps v_1912 v_1914 v_131 (by decide) rfl (Nat.le_of_ble_eq_true rfl) hC (Nat.le_refl _) (Nat.le_refl _) hc hs (fun j h9 => by cases h9) (fun _ _ => rfl) ?_
  show ab_E w (d + 1) mt_M_turnsNow 36 [.ref mx, .int v1, .int v2] [] (I2, L, ab_RR, n, nc, ns) res
  exact ab_vret d_M_turnsNow_36 rfl h
