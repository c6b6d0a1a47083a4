theorem d_M_spreads_0 : decode (ab_bc mt_M_spreads) 0 = .ok (.iconst 1, 1) := by decide +kernel
theorem d_M_spreads_1 : decode (ab_bc mt_M_spreads) 1 = .ok (.istore_n 2, 1) := by decide +kernel
theorem d_M_spreads_2 : decode (ab_bc mt_M_spreads) 2 = .ok (.iload_n 2, 1) := by decide +kernel
theorem d_M_spreads_3 : decode (ab_bc mt_M_spreads) 3 = .ok (.ifCond .eq 130, 3) := by decide +kernel
theorem d_M_spreads_6 : decode (ab_bc mt_M_spreads) 6 = .ok (.iconst 0, 1) := by decide +kernel
theorem d_M_spreads_7 : decode (ab_bc mt_M_spreads) 7 = .ok (.istore_n 2, 1) := by decide +kernel
theorem d_M_spreads_8 : decode (ab_bc mt_M_spreads) 8 = .ok (.iconst 0, 1) := by decide +kernel
theorem d_M_spreads_9 : decode (ab_bc mt_M_spreads) 9 = .ok (.istore_n 3, 1) := by decide +kernel
theorem d_M_spreads_10 : decode (ab_bc mt_M_spreads) 10 = .ok (.iload_n 3, 1) := by decide +kernel
theorem d_M_spreads_11 : decode (ab_bc mt_M_spreads) 11 = .ok (.aload_n 0, 1) := by decide +kernel
theorem d_M_spreads_12 : decode (ab_bc mt_M_spreads) 12 = .ok (.invokevirtual 234, 3) := by decide +kernel
theorem d_M_spreads_15 : decode (ab_bc mt_M_spreads) 15 = .ok (.if_icmp .ge 115, 3) := by decide +kernel
theorem d_M_spreads_18 : decode (ab_bc mt_M_spreads) 18 = .ok (.aload_n 0, 1) := by decide +kernel
theorem d_M_spreads_19 : decode (ab_bc mt_M_spreads) 19 = .ok (.iload_n 3, 1) := by decide +kernel
theorem d_M_spreads_20 : decode (ab_bc mt_M_spreads) 20 = .ok (.invokevirtual 262, 3) := by decide +kernel
theorem d_M_spreads_23 : decode (ab_bc mt_M_spreads) 23 = .ok (.ifCond .ne 6, 3) := by decide +kernel
theorem d_M_spreads_26 : decode (ab_bc mt_M_spreads) 26 = .ok (.goto 98, 3) := by decide +kernel
theorem d_M_spreads_29 : decode (ab_bc mt_M_spreads) 29 = .ok (.bipush 10, 2) := by decide +kernel
theorem d_M_spreads_31 : decode (ab_bc mt_M_spreads) 31 = .ok (.iload_n 1, 1) := by decide +kernel
theorem d_M_spreads_32 : decode (ab_bc mt_M_spreads) 32 = .ok (.imul, 1) := by decide +kernel
theorem d_M_spreads_33 : decode (ab_bc mt_M_spreads) 33 = .ok (.aload_n 0, 1) := by decide +kernel
theorem d_M_spreads_34 : decode (ab_bc mt_M_spreads) 34 = .ok (.getfield 24, 3) := by decide +kernel
theorem d_M_spreads_37 : decode (ab_bc mt_M_spreads) 37 = .ok (.iconst 3, 1) := by decide +kernel
theorem d_M_spreads_38 : decode (ab_bc mt_M_spreads) 38 = .ok (.iload_n 3, 1) := by decide +kernel
theorem d_M_spreads_39 : decode (ab_bc mt_M_spreads) 39 = .ok (.iadd, 1) := by decide +kernel
theorem d_M_spreads_40 : decode (ab_bc mt_M_spreads) 40 = .ok (.iaload, 1) := by decide +kernel
theorem d_M_spreads_41 : decode (ab_bc mt_M_spreads) 41 = .ok (.iadd, 1) := by decide +kernel
theorem d_M_spreads_42 : decode (ab_bc mt_M_spreads) 42 = .ok (.istore 4, 2) := by decide +kernel
theorem d_M_spreads_44 : decode (ab_bc mt_M_spreads) 44 = .ok (.bipush 10, 2) := by decide +kernel
theorem d_M_spreads_46 : decode (ab_bc mt_M_spreads) 46 = .ok (.iload_n 1, 1) := by decide +kernel
theorem d_M_spreads_47 : decode (ab_bc mt_M_spreads) 47 = .ok (.imul, 1) := by decide +kernel
theorem d_M_spreads_48 : decode (ab_bc mt_M_spreads) 48 = .ok (.aload_n 0, 1) := by decide +kernel
theorem d_M_spreads_49 : decode (ab_bc mt_M_spreads) 49 = .ok (.getfield 24, 3) := by decide +kernel
theorem d_M_spreads_52 : decode (ab_bc mt_M_spreads) 52 = .ok (.bipush 27, 2) := by decide +kernel
theorem d_M_spreads_54 : decode (ab_bc mt_M_spreads) 54 = .ok (.iload_n 3, 1) := by decide +kernel
theorem d_M_spreads_55 : decode (ab_bc mt_M_spreads) 55 = .ok (.iadd, 1) := by decide +kernel
theorem d_M_spreads_56 : decode (ab_bc mt_M_spreads) 56 = .ok (.iaload, 1) := by decide +kernel
theorem d_M_spreads_57 : decode (ab_bc mt_M_spreads) 57 = .ok (.iadd, 1) := by decide +kernel
theorem d_M_spreads_58 : decode (ab_bc mt_M_spreads) 58 = .ok (.istore 5, 2) := by decide +kernel
theorem d_M_spreads_60 : decode (ab_bc mt_M_spreads) 60 = .ok (.aload_n 0, 1) := by decide +kernel
theorem d_M_spreads_61 : decode (ab_bc mt_M_spreads) 61 = .ok (.iload 4, 2) := by decide +kernel
theorem d_M_spreads_63 : decode (ab_bc mt_M_spreads) 63 = .ok (.aload_n 0, 1) := by decide +kernel
theorem d_M_spreads_64 : decode (ab_bc mt_M_spreads) 64 = .ok (.getfield 78, 3) := by decide +kernel
theorem d_M_spreads_67 : decode (ab_bc mt_M_spreads) 67 = .ok (.iload 5, 2) := by decide +kernel
theorem d_M_spreads_69 : decode (ab_bc mt_M_spreads) 69 = .ok (.iaload, 1) := by decide +kernel
theorem d_M_spreads_70 : decode (ab_bc mt_M_spreads) 70 = .ok (.aload_n 0, 1) := by decide +kernel
theorem d_M_spreads_71 : decode (ab_bc mt_M_spreads) 71 = .ok (.iload_n 3, 1) := by decide +kernel
theorem d_M_spreads_72 : decode (ab_bc mt_M_spreads) 72 = .ok (.invokevirtual 222, 3) := by decide +kernel
theorem d_M_spreads_75 : decode (ab_bc mt_M_spreads) 75 = .ok (.iadd, 1) := by decide +kernel
theorem d_M_spreads_76 : decode (ab_bc mt_M_spreads) 76 = .ok (.invokevirtual 422, 3) := by decide +kernel
theorem d_M_spreads_79 : decode (ab_bc mt_M_spreads) 79 = .ok (.ifCond .ne 7, 3) := by decide +kernel
theorem d_M_spreads_82 : decode (ab_bc mt_M_spreads) 82 = .ok (.iload_n 2, 1) := by decide +kernel
theorem d_M_spreads_83 : decode (ab_bc mt_M_spreads) 83 = .ok (.ifCond .eq 7, 3) := by decide +kernel
theorem d_M_spreads_86 : decode (ab_bc mt_M_spreads) 86 = .ok (.iconst 1, 1) := by decide +kernel
theorem d_M_spreads_87 : decode (ab_bc mt_M_spreads) 87 = .ok (.goto 4, 3) := by decide +kernel
theorem d_M_spreads_90 : decode (ab_bc mt_M_spreads) 90 = .ok (.iconst 0, 1) := by decide +kernel
theorem d_M_spreads_91 : decode (ab_bc mt_M_spreads) 91 = .ok (.istore_n 2, 1) := by decide +kernel
theorem d_M_spreads_92 : decode (ab_bc mt_M_spreads) 92 = .ok (.aload_n 0, 1) := by decide +kernel
theorem d_M_spreads_93 : decode (ab_bc mt_M_spreads) 93 = .ok (.iload 5, 2) := by decide +kernel
theorem d_M_spreads_95 : decode (ab_bc mt_M_spreads) 95 = .ok (.aload_n 0, 1) := by decide +kernel
theorem d_M_spreads_96 : decode (ab_bc mt_M_spreads) 96 = .ok (.getfield 78, 3) := by decide +kernel
theorem d_M_spreads_99 : decode (ab_bc mt_M_spreads) 99 = .ok (.iload 4, 2) := by decide +kernel
theorem d_M_spreads_101 : decode (ab_bc mt_M_spreads) 101 = .ok (.iaload, 1) := by decide +kernel
theorem d_M_spreads_102 : decode (ab_bc mt_M_spreads) 102 = .ok (.aload_n 0, 1) := by decide +kernel
theorem d_M_spreads_103 : decode (ab_bc mt_M_spreads) 103 = .ok (.iload_n 3, 1) := by decide +kernel
theorem d_M_spreads_104 : decode (ab_bc mt_M_spreads) 104 = .ok (.invokevirtual 222, 3) := by decide +kernel
theorem d_M_spreads_107 : decode (ab_bc mt_M_spreads) 107 = .ok (.iadd, 1) := by decide +kernel
theorem d_M_spreads_108 : decode (ab_bc mt_M_spreads) 108 = .ok (.invokevirtual 422, 3) := by decide +kernel
theorem d_M_spreads_111 : decode (ab_bc mt_M_spreads) 111 = .ok (.ifCond .ne 7, 3) := by decide +kernel
theorem d_M_spreads_114 : decode (ab_bc mt_M_spreads) 114 = .ok (.iload_n 2, 1) := by decide +kernel
theorem d_M_spreads_115 : decode (ab_bc mt_M_spreads) 115 = .ok (.ifCond .eq 7, 3) := by decide +kernel
theorem d_M_spreads_118 : decode (ab_bc mt_M_spreads) 118 = .ok (.iconst 1, 1) := by decide +kernel
theorem d_M_spreads_119 : decode (ab_bc mt_M_spreads) 119 = .ok (.goto 4, 3) := by decide +kernel
theorem d_M_spreads_122 : decode (ab_bc mt_M_spreads) 122 = .ok (.iconst 0, 1) := by decide +kernel
theorem d_M_spreads_123 : decode (ab_bc mt_M_spreads) 123 = .ok (.istore_n 2, 1) := by decide +kernel
theorem d_M_spreads_124 : decode (ab_bc mt_M_spreads) 124 = .ok (.iinc 3 1, 3) := by decide +kernel
theorem d_M_spreads_127 : decode (ab_bc mt_M_spreads) 127 = .ok (.goto (-117), 3) := by decide +kernel
theorem d_M_spreads_130 : decode (ab_bc mt_M_spreads) 130 = .ok (.goto (-128), 3) := by decide +kernel
theorem d_M_spreads_133 : decode (ab_bc mt_M_spreads) 133 = .ok (.return_, 1) := by decide +kernel
-- CableKeeperModel.spreads(I)V over mx
theorem q_M_spreads_0 {w : ab_Wd} {d n nc ns : Nat} {I : Nat → Nat → Int32} {L : Nat → Nat → Int64} {res : ab_Re} (v1 : Int32) (hc : nc ≤ res.2.2.2.2.2.1) (hs : ns ≤ res.2.2.2.2.2.2)
    (h : ab_E w (d + 1) mt_M_spreads 2 [.ref mx, .int v1, .int 1, .null, .null, .null] [] (I, L, ab_RR, n, nc, ns) res) : ab_E w (d + 1) mt_M_spreads 0 [.ref mx, .int v1, .null, .null, .null, .null] [] (I, L, ab_RR, n, nc, ns) res := by
  refine ab_iconst (v := 1) d_M_spreads_0 rfl ?_
  refine ab_istore_n (i := 2) d_M_spreads_1 rfl (by decide) (Or.inr rfl) ?_
  exact h
theorem q_M_spreads_2 {w : ab_Wd} {d n nc ns : Nat} {I : Nat → Nat → Int32} {L : Nat → Nat → Int64} {res : ab_Re} (v1 : Int32) (v2 : Int32) (hc : nc ≤ res.2.2.2.2.2.1) (hs : ns ≤ res.2.2.2.2.2.2)
    (h : ((v2 = 0 → (res = (.inl none, (I, L, ab_RR, n, nc, ns)))) ∧ (¬ v2 = 0 → (ab_E w (d + 1) mt_M_spreads 10 [.ref mx, .int v1, .int 0, .int 0, .null, .null] [] (I, L, ab_RR, n, nc, ns) res)))) : ab_E w (d + 1) mt_M_spreads 2 [.ref mx, .int v1, .int v2, .null, .null, .null] [] (I, L, ab_RR, n, nc, ns) res := by
  refine ab_iload_n (i := 2) d_M_spreads_2 rfl rfl ?_
  refine ab_if_eq (tgt := 133) d_M_spreads_3 (by decide) (fun c1 => ?_) (fun c1 => ?_)
  · have h := h.1 c1
    exact ab_vret d_M_spreads_133 rfl h
  · have h := h.2 c1
    refine ab_iconst (v := 0) d_M_spreads_6 rfl ?_
    refine ab_istore_n (i := 2) d_M_spreads_7 rfl (by decide) (Or.inr rfl) ?_
    refine ab_iconst (v := 0) d_M_spreads_8 rfl ?_
    refine ab_istore_n (i := 3) d_M_spreads_9 rfl (by decide) (Or.inr rfl) ?_
    exact h
theorem q_M_spreads_10 {w : ab_Wd} {d n nc ns : Nat} {I : Nat → Nat → Int32} {L : Nat → Nat → Int64} {res : ab_Re} (v1 : Int32) (v2 : Int32) (v3 : Int32) (hc : nc ≤ res.2.2.2.2.2.1) (hs : ns ≤ res.2.2.2.2.2.2)
    (h : ∃ (r1 : Int32), ab_C w d mt_M_many [.ref mx] (I, L, ab_RR, n, nc, ns) (.inl (some (.int r1)), (I, L, ab_RR, n, nc, ns)) ∧ ((r1 ≤ v3 → (ab_E w (d + 1) mt_M_spreads 2 [.ref mx, .int v1, .int v2, .null, .null, .null] [] (I, L, ab_RR, n, nc, ns) res)) ∧ (¬ r1 ≤ v3 → (∃ (r3 : Int32), ab_C w d mt_M_isSound [.ref mx, .int v3] (I, L, ab_RR, n, nc, ns) (.inl (some (.int r3)), (I, L, ab_RR, n, nc, ns)) ∧ ((¬ r3 = 0 → ((vp_in (3 + v3) 399) ∧ (vp_in (27 + v3) 399) ∧ (vp_in ((10 * v1) + (I mx_now (27 + v3).toNatClampNeg)) 10240) ∧ ∃ (r8 : Int32), ab_C w d mt_M_priceOf [.ref mx, .int v3] (I, L, ab_RR, n, nc, ns) (.inl (some (.int r8)), (I, L, ab_RR, n, nc, ns)) ∧ ∃ (r9 : Int32) (I10 : Nat → Nat → Int32), ab_C w d mt_M_lessens [.ref mx, .int ((10 * v1) + (I mx_now (3 + v3).toNatClampNeg)), .int ((I mx_joint ((10 * v1) + (I mx_now (27 + v3).toNatClampNeg)).toNatClampNeg) + r8)] (I, L, ab_RR, n, nc, ns) (.inl (some (.int r9)), (I10, L, ab_RR, n, nc, ns)) ∧ ((¬ r9 = 0 → (ab_E w (d + 1) mt_M_spreads 86 [.ref mx, .int v1, .int v2, .int v3, .int ((10 * v1) + (I mx_now (3 + v3).toNatClampNeg)), .int ((10 * v1) + (I mx_now (27 + v3).toNatClampNeg))] [] (I10, L, ab_RR, n, nc, ns) res)) ∧ (r9 = 0 → ((v2 = 0 → (ab_E w (d + 1) mt_M_spreads 91 [.ref mx, .int v1, .int v2, .int v3, .int ((10 * v1) + (I mx_now (3 + v3).toNatClampNeg)), .int ((10 * v1) + (I mx_now (27 + v3).toNatClampNeg))] [.int 0] (I10, L, ab_RR, n, nc, ns) res)) ∧ (¬ v2 = 0 → (ab_E w (d + 1) mt_M_spreads 86 [.ref mx, .int v1, .int v2, .int v3, .int ((10 * v1) + (I mx_now (3 + v3).toNatClampNeg)), .int ((10 * v1) + (I mx_now (27 + v3).toNatClampNeg))] [] (I10, L, ab_RR, n, nc, ns) res))))))) ∧ (r3 = 0 → (ab_E w (d + 1) mt_M_spreads 124 [.ref mx, .int v1, .int v2, .int v3, .null, .null] [] (I, L, ab_RR, n, nc, ns) res))))))) : ab_E w (d + 1) mt_M_spreads 10 [.ref mx, .int v1, .int v2, .int v3, .null, .null] [] (I, L, ab_RR, n, nc, ns) res := by
  refine ab_iload_n (i := 3) d_M_spreads_10 rfl rfl ?_
  refine ab_aload_n (i := 0) d_M_spreads_11 rfl rfl ?_
  obtain ⟨r1, hC, h⟩ := h
  refine ab_callV (me2 := mt_M_many) (b := mx) (as := []) (st := [.int v3]) (rv := (some (.int r1))) (M2 := (I, L, ab_RR, n, nc, ns)) d_M_spreads_12 ce_M_many v_1635 v_1637 v_79 (by decide) rfl (Nat.le_of_ble_eq_true rfl) hC (Nat.le_refl _) (Nat.le_refl _) hc hs (fun j h9 => by cases h9) (fun _ _ => rfl) ?_
  show ab_E w (d + 1) mt_M_spreads 15 [.ref mx, .int v1, .int v2, .int v3, .null, .null] [.int r1, .int v3] (I, L, ab_RR, n, nc, ns) res
  refine ab_icmp_ge (tgt := 130) d_M_spreads_15 (by decide) (fun c2 => ?_) (fun c2 => ?_)
  · have h := h.1 c2
    refine ab_goto (tgt := 2) d_M_spreads_130 (by decide) ?_
    refine ab_drop 3 ?_
    exact h
  · have h := h.2 c2
    refine ab_aload_n (i := 0) d_M_spreads_18 rfl rfl ?_
    refine ab_iload_n (i := 3) d_M_spreads_19 rfl rfl ?_
    obtain ⟨r3, hC, h⟩ := h
    refine ab_callV (me2 := mt_M_isSound) (b := mx) (as := [.int v3]) (st := []) (rv := (some (.int r3))) (M2 := (I, L, ab_RR, n, nc, ns)) d_M_spreads_20 ce_M_isSound v_1679 v_1681 v_89 (by decide) rfl (Nat.le_of_ble_eq_true rfl) hC (Nat.le_refl _) (Nat.le_refl _) hc hs (fun j h9 => by cases h9) (fun _ _ => rfl) ?_
    show ab_E w (d + 1) mt_M_spreads 23 [.ref mx, .int v1, .int v2, .int v3, .null, .null] [.int r3] (I, L, ab_RR, n, nc, ns) res
    refine ab_if_ne (tgt := 29) d_M_spreads_23 (by decide) (fun c4 => ?_) (fun c4 => ?_)
    · have h := h.1 c4
      refine ab_bipush (v := 10) d_M_spreads_29 rfl ?_
      refine ab_iload_n (i := 1) d_M_spreads_31 rfl rfl ?_
      refine ab_imul d_M_spreads_32 ?_
      refine ab_aload_n (i := 0) d_M_spreads_33 rfl rfl ?_
      refine ab_getR (ci := 11) (k := 4) (j := mx_now) d_M_spreads_34 v_1372 rfl (by decide) (by decide) rfl r_mx_4 ?_
      refine ab_iconst (v := 3) d_M_spreads_37 rfl ?_
      refine ab_iload_n (i := 3) d_M_spreads_38 rfl rfl ?_
      refine ab_iadd d_M_spreads_39 ?_
      have g5 := h.1; have h := h.2
      refine ab_iald d_M_spreads_40 rfl rfl g5 ?_
      refine ab_iadd d_M_spreads_41 ?_
      refine ab_istore (i := 4) d_M_spreads_42 (by decide) (Or.inr rfl) ?_
      refine ab_bipush (v := 10) d_M_spreads_44 rfl ?_
      refine ab_iload_n (i := 1) d_M_spreads_46 rfl rfl ?_
      refine ab_imul d_M_spreads_47 ?_
      refine ab_aload_n (i := 0) d_M_spreads_48 rfl rfl ?_
      refine ab_getR (ci := 11) (k := 4) (j := mx_now) d_M_spreads_49 v_1372 rfl (by decide) (by decide) rfl r_mx_4 ?_
      refine ab_bipush (v := 27) d_M_spreads_52 rfl ?_
      refine ab_iload_n (i := 3) d_M_spreads_54 rfl rfl ?_
      refine ab_iadd d_M_spreads_55 ?_
      have g6 := h.1; have h := h.2
      refine ab_iald d_M_spreads_56 rfl rfl g6 ?_
      refine ab_iadd d_M_spreads_57 ?_
      refine ab_istore (i := 5) d_M_spreads_58 (by decide) (Or.inr rfl) ?_
      refine ab_aload_n (i := 0) d_M_spreads_60 rfl rfl ?_
      refine ab_iload (i := 4) d_M_spreads_61 rfl ?_
      refine ab_aload_n (i := 0) d_M_spreads_63 rfl rfl ?_
      refine ab_getR (ci := 11) (k := 40) (j := mx_joint) d_M_spreads_64 v_1408 rfl (by decide) (by decide) rfl r_mx_40 ?_
      refine ab_iload (i := 5) d_M_spreads_67 rfl ?_
      have g7 := h.1; have h := h.2
      refine ab_iald d_M_spreads_69 rfl rfl g7 ?_
      refine ab_aload_n (i := 0) d_M_spreads_70 rfl rfl ?_
      refine ab_iload_n (i := 3) d_M_spreads_71 rfl rfl ?_
      obtain ⟨r8, hC, h⟩ := h
      refine ab_callV (me2 := mt_M_priceOf) (b := mx) (as := [.int v3]) (st := [.int (I mx_joint ((10 * v1) + (I mx_now (27 + v3).toNatClampNeg)).toNatClampNeg), .int ((10 * v1) + (I mx_now (3 + v3).toNatClampNeg)), .ref mx]) (rv := (some (.int r8))) (M2 := (I, L, ab_RR, n, nc, ns)) d_M_spreads_72 ce_M_priceOf v_1654 v_1656 v_83 (by decide) rfl (Nat.le_of_ble_eq_true rfl) hC (Nat.le_refl _) (Nat.le_refl _) hc hs (fun j h9 => by cases h9) (fun _ _ => rfl) ?_
      show ab_E w (d + 1) mt_M_spreads 75 [.ref mx, .int v1, .int v2, .int v3, .int ((10 * v1) + (I mx_now (3 + v3).toNatClampNeg)), .int ((10 * v1) + (I mx_now (27 + v3).toNatClampNeg))] [.int r8, .int (I mx_joint ((10 * v1) + (I mx_now (27 + v3).toNatClampNeg)).toNatClampNeg), .int ((10 * v1) + (I mx_now (3 + v3).toNatClampNeg)), .ref mx] (I, L, ab_RR, n, nc, ns) res
      refine ab_iadd d_M_spreads_75 ?_
      obtain ⟨r9, I10, hC, h⟩ := h
      refine ab_callV (me2 := mt_M_lessens) (b := mx) (as := [.int ((10 * v1) + (I mx_now (3 + v3).toNatClampNeg)), .int ((I mx_joint ((10 * v1) + (I mx_now (27 + v3).toNatClampNeg)).toNatClampNeg) + r8)]) (st := []) (rv := (some (.int r9))) (M2 := (I10, L, ab_RR, n, nc, ns)) d_M_spreads_76 ce_M_lessens v_1884 v_1886 v_126 (by decide) rfl (Nat.le_of_ble_eq_true rfl) hC (Nat.le_refl _) (Nat.le_refl _) hc hs (fun j h9 => by cases h9) (fun _ _ => rfl) ?_
      show ab_E w (d + 1) mt_M_spreads 79 [.ref mx, .int v1, .int v2, .int v3, .int ((10 * v1) + (I mx_now (3 + v3).toNatClampNeg)), .int ((10 * v1) + (I mx_now (27 + v3).toNatClampNeg))] [.int r9] (I10, L, ab_RR, n, nc, ns) res
      refine ab_if_ne (tgt := 86) d_M_spreads_79 (by decide) (fun c11 => ?_) (fun c11 => ?_)
      · have h := h.1 c11
        exact h
      · have h := h.2 c11
        refine ab_iload_n (i := 2) d_M_spreads_82 rfl rfl ?_
        refine ab_if_eq (tgt := 90) d_M_spreads_83 (by decide) (fun c12 => ?_) (fun c12 => ?_)
        · have h := h.1 c12
          refine ab_iconst (v := 0) d_M_spreads_90 rfl ?_
          exact h
        · have h := h.2 c12
          exact h
    · have h := h.2 c4
      refine ab_goto (tgt := 124) d_M_spreads_26 (by decide) ?_
      exact h
theorem q_M_spreads_86 {w : ab_Wd} {d n nc ns : Nat} {I : Nat → Nat → Int32} {L : Nat → Nat → Int64} {res : ab_Re} (v1 : Int32) (v2 : Int32) (v3 : Int32) (v4 : Int32) (v5 : Int32) (hc : nc ≤ res.2.2.2.2.2.1) (hs : ns ≤ res.2.2.2.2.2.2)
    (h : ab_E w (d + 1) mt_M_spreads 91 [.ref mx, .int v1, .int v2, .int v3, .int v4, .int v5] [.int 1] (I, L, ab_RR, n, nc, ns) res) : ab_E w (d + 1) mt_M_spreads 86 [.ref mx, .int v1, .int v2, .int v3, .int v4, .int v5] [] (I, L, ab_RR, n, nc, ns) res := by
  refine ab_iconst (v := 1) d_M_spreads_86 rfl ?_
  refine ab_goto (tgt := 91) d_M_spreads_87 (by decide) ?_
  exact h
theorem q_M_spreads_91 {w : ab_Wd} {d n nc ns : Nat} {I : Nat → Nat → Int32} {L : Nat → Nat → Int64} {res : ab_Re} (v1 : Int32) (v2 : Int32) (v3 : Int32) (v4 : Int32) (v5 : Int32) (s0 : Int32) (hc : nc ≤ res.2.2.2.2.2.1) (hs : ns ≤ res.2.2.2.2.2.2)
    (h : (vp_in v4 10240) ∧ ∃ (r2 : Int32), ab_C w d mt_M_priceOf [.ref mx, .int v3] (I, L, ab_RR, n, nc, ns) (.inl (some (.int r2)), (I, L, ab_RR, n, nc, ns)) ∧ ∃ (r3 : Int32) (I4 : Nat → Nat → Int32), ab_C w d mt_M_lessens [.ref mx, .int v5, .int ((I mx_joint v4.toNatClampNeg) + r2)] (I, L, ab_RR, n, nc, ns) (.inl (some (.int r3)), (I4, L, ab_RR, n, nc, ns)) ∧ ((¬ r3 = 0 → (ab_E w (d + 1) mt_M_spreads 118 [.ref mx, .int v1, .int s0, .int v3, .int v4, .int v5] [] (I4, L, ab_RR, n, nc, ns) res)) ∧ (r3 = 0 → ((s0 = 0 → (ab_E w (d + 1) mt_M_spreads 123 [.ref mx, .int v1, .int s0, .int v3, .int v4, .int v5] [.int 0] (I4, L, ab_RR, n, nc, ns) res)) ∧ (¬ s0 = 0 → (ab_E w (d + 1) mt_M_spreads 118 [.ref mx, .int v1, .int s0, .int v3, .int v4, .int v5] [] (I4, L, ab_RR, n, nc, ns) res)))))) : ab_E w (d + 1) mt_M_spreads 91 [.ref mx, .int v1, .int v2, .int v3, .int v4, .int v5] [.int s0] (I, L, ab_RR, n, nc, ns) res := by
  refine ab_istore_n (i := 2) d_M_spreads_91 rfl (by decide) (Or.inr rfl) ?_
  refine ab_aload_n (i := 0) d_M_spreads_92 rfl rfl ?_
  refine ab_iload (i := 5) d_M_spreads_93 rfl ?_
  refine ab_aload_n (i := 0) d_M_spreads_95 rfl rfl ?_
  refine ab_getR (ci := 11) (k := 40) (j := mx_joint) d_M_spreads_96 v_1408 rfl (by decide) (by decide) rfl r_mx_40 ?_
  refine ab_iload (i := 4) d_M_spreads_99 rfl ?_
  have g1 := h.1; have h := h.2
  refine ab_iald d_M_spreads_101 rfl rfl g1 ?_
  refine ab_aload_n (i := 0) d_M_spreads_102 rfl rfl ?_
  refine ab_iload_n (i := 3) d_M_spreads_103 rfl rfl ?_
  obtain ⟨r2, hC, h⟩ := h
  refine ab_callV (me2 := mt_M_priceOf) (b := mx) (as := [.int v3]) (st := [.int (I mx_joint v4.toNatClampNeg), .int v5, .ref mx]) (rv := (some (.int r2))) (M2 := (I, L, ab_RR, n, nc, ns)) d_M_spreads_104 ce_M_priceOf v_1654 v_1656 v_83 (by decide) rfl (Nat.le_of_ble_eq_true rfl) hC (Nat.le_refl _) (Nat.le_refl _) hc hs (fun j h9 => by cases h9) (fun _ _ => rfl) ?_
  show ab_E w (d + 1) mt_M_spreads 107 [.ref mx, .int v1, .int s0, .int v3, .int v4, .int v5] [.int r2, .int (I mx_joint v4.toNatClampNeg), .int v5, .ref mx] (I, L, ab_RR, n, nc, ns) res
  refine ab_iadd d_M_spreads_107 ?_
  obtain ⟨r3, I4, hC, h⟩ := h
  refine ab_callV (me2 := mt_M_lessens) (b := mx) (as := [.int v5, .int ((I mx_joint v4.toNatClampNeg) + r2)]) (st := []) (rv := (some (.int r3))) (M2 := (I4, L, ab_RR, n, nc, ns)) d_M_spreads_108 ce_M_lessens v_1884 v_1886 v_126 (by decide) rfl (Nat.le_of_ble_eq_true rfl) hC (Nat.le_refl _) (Nat.le_refl _) hc hs (fun j h9 => by cases h9) (fun _ _ => rfl) ?_
  show ab_E w (d + 1) mt_M_spreads 111 [.ref mx, .int v1, .int s0, .int v3, .int v4, .int v5] [.int r3] (I4, L, ab_RR, n, nc, ns) res
  refine ab_if_ne (tgt := 118) d_M_spreads_111 (by decide) (fun c5 => ?_) (fun c5 => ?_)
  · have h := h.1 c5
    exact h
  · have h := h.2 c5
    refine ab_iload_n (i := 2) d_M_spreads_114 rfl rfl ?_
    refine ab_if_eq (tgt := 122) d_M_spreads_115 (by decide) (fun c6 => ?_) (fun c6 => ?_)
    · have h := h.1 c6
      refine ab_iconst (v := 0) d_M_spreads_122 rfl ?_
      exact h
    · have h := h.2 c6
      exact h
theorem q_M_spreads_118 {w : ab_Wd} {d n nc ns : Nat} {I : Nat → Nat → Int32} {L : Nat → Nat → Int64} {res : ab_Re} (v1 : Int32) (v2 : Int32) (v3 : Int32) (v4 : Int32) (v5 : Int32) (hc : nc ≤ res.2.2.2.2.2.1) (hs : ns ≤ res.2.2.2.2.2.2)
    (h : ab_E w (d + 1) mt_M_spreads 123 [.ref mx, .int v1, .int v2, .int v3, .int v4, .int v5] [.int 1] (I, L, ab_RR, n, nc, ns) res) : ab_E w (d + 1) mt_M_spreads 118 [.ref mx, .int v1, .int v2, .int v3, .int v4, .int v5] [] (I, L, ab_RR, n, nc, ns) res := by
  refine ab_iconst (v := 1) d_M_spreads_118 rfl ?_
  refine ab_goto (tgt := 123) d_M_spreads_119 (by decide) ?_
  exact h
theorem q_M_spreads_123 {w : ab_Wd} {d n nc ns : Nat} {I : Nat → Nat → Int32} {L : Nat → Nat → Int64} {res : ab_Re} (v1 : Int32) (v2 : Int32) (v3 : Int32) (v4 : Int32) (v5 : Int32) (s0 : Int32) (hc : nc ≤ res.2.2.2.2.2.1) (hs : ns ≤ res.2.2.2.2.2.2)
    (h : ab_E w (d + 1) mt_M_spreads 124 [.ref mx, .int v1, .int s0, .int v3, .null, .null] [] (I, L, ab_RR, n, nc, ns) res) : ab_E w (d + 1) mt_M_spreads 123 [.ref mx, .int v1, .int v2, .int v3, .int v4, .int v5] [.int s0] (I, L, ab_RR, n, nc, ns) res := by
  refine ab_istore_n (i := 2) d_M_spreads_123 rfl (by decide) (Or.inr rfl) ?_
  refine ab_drop 4 ?_
  refine ab_drop 5 ?_
  exact h
theorem q_M_spreads_124 {w : ab_Wd} {d n nc ns : Nat} {I : Nat → Nat → Int32} {L : Nat → Nat → Int64} {res : ab_Re} (v1 : Int32) (v2 : Int32) (v3 : Int32) (hc : nc ≤ res.2.2.2.2.2.1) (hs : ns ≤ res.2.2.2.2.2.2)
    (h : ab_E w (d + 1) mt_M_spreads 10 [.ref mx, .int v1, .int v2, .int (v3 + 1), .null, .null] [] (I, L, ab_RR, n, nc, ns) res) : ab_E w (d + 1) mt_M_spreads 124 [.ref mx, .int v1, .int v2, .int v3, .null, .null] [] (I, L, ab_RR, n, nc, ns) res := by
  refine ab_iinc (i := 3) (v := (v3 + 1)) d_M_spreads_124 rfl rfl (by decide) (Or.inr rfl) ?_
  refine ab_goto (tgt := 10) d_M_spreads_127 (by decide) ?_
  exact h
theorem d_M_tellJoints_0 : decode (ab_bc mt_M_tellJoints) 0 = .ok (.iconst 1, 1) := by decide +kernel
theorem d_M_tellJoints_1 : decode (ab_bc mt_M_tellJoints) 1 = .ok (.istore_n 2, 1) := by decide +kernel
theorem d_M_tellJoints_2 : decode (ab_bc mt_M_tellJoints) 2 = .ok (.iload_n 2, 1) := by decide +kernel
theorem d_M_tellJoints_3 : decode (ab_bc mt_M_tellJoints) 3 = .ok (.iload_n 1, 1) := by decide +kernel
theorem d_M_tellJoints_4 : decode (ab_bc mt_M_tellJoints) 4 = .ok (.if_icmp .gt 172, 3) := by decide +kernel
theorem d_M_tellJoints_7 : decode (ab_bc mt_M_tellJoints) 7 = .ok (.iload_n 2, 1) := by decide +kernel
theorem d_M_tellJoints_8 : decode (ab_bc mt_M_tellJoints) 8 = .ok (.iload_n 1, 1) := by decide +kernel
theorem d_M_tellJoints_9 : decode (ab_bc mt_M_tellJoints) 9 = .ok (.iconst (-1), 1) := by decide +kernel
theorem d_M_tellJoints_10 : decode (ab_bc mt_M_tellJoints) 10 = .ok (.ixor, 1) := by decide +kernel
theorem d_M_tellJoints_11 : decode (ab_bc mt_M_tellJoints) 11 = .ok (.iand, 1) := by decide +kernel
theorem d_M_tellJoints_12 : decode (ab_bc mt_M_tellJoints) 12 = .ok (.ifCond .eq 6, 3) := by decide +kernel
theorem d_M_tellJoints_15 : decode (ab_bc mt_M_tellJoints) 15 = .ok (.goto 155, 3) := by decide +kernel
theorem d_M_tellJoints_18 : decode (ab_bc mt_M_tellJoints) 18 = .ok (.iload_n 2, 1) := by decide +kernel
theorem d_M_tellJoints_19 : decode (ab_bc mt_M_tellJoints) 19 = .ok (.invokestatic 425, 3) := by decide +kernel
theorem d_M_tellJoints_22 : decode (ab_bc mt_M_tellJoints) 22 = .ok (.iconst 1, 1) := by decide +kernel
theorem d_M_tellJoints_23 : decode (ab_bc mt_M_tellJoints) 23 = .ok (.if_icmp .ne 7, 3) := by decide +kernel
theorem d_M_tellJoints_26 : decode (ab_bc mt_M_tellJoints) 26 = .ok (.iconst 1, 1) := by decide +kernel
theorem d_M_tellJoints_27 : decode (ab_bc mt_M_tellJoints) 27 = .ok (.goto 4, 3) := by decide +kernel
theorem d_M_tellJoints_30 : decode (ab_bc mt_M_tellJoints) 30 = .ok (.iconst 0, 1) := by decide +kernel
theorem d_M_tellJoints_31 : decode (ab_bc mt_M_tellJoints) 31 = .ok (.istore_n 3, 1) := by decide +kernel
theorem d_M_tellJoints_32 : decode (ab_bc mt_M_tellJoints) 32 = .ok (.iconst 0, 1) := by decide +kernel
theorem d_M_tellJoints_33 : decode (ab_bc mt_M_tellJoints) 33 = .ok (.istore 4, 2) := by decide +kernel
theorem d_M_tellJoints_35 : decode (ab_bc mt_M_tellJoints) 35 = .ok (.iload 4, 2) := by decide +kernel
theorem d_M_tellJoints_37 : decode (ab_bc mt_M_tellJoints) 37 = .ok (.aload_n 0, 1) := by decide +kernel
theorem d_M_tellJoints_38 : decode (ab_bc mt_M_tellJoints) 38 = .ok (.getfield 21, 3) := by decide +kernel
theorem d_M_tellJoints_41 : decode (ab_bc mt_M_tellJoints) 41 = .ok (.if_icmp .ge 41, 3) := by decide +kernel
theorem d_M_tellJoints_44 : decode (ab_bc mt_M_tellJoints) 44 = .ok (.aload_n 0, 1) := by decide +kernel
theorem d_M_tellJoints_45 : decode (ab_bc mt_M_tellJoints) 45 = .ok (.getfield 78, 3) := by decide +kernel
theorem d_M_tellJoints_48 : decode (ab_bc mt_M_tellJoints) 48 = .ok (.bipush 10, 2) := by decide +kernel
theorem d_M_tellJoints_50 : decode (ab_bc mt_M_tellJoints) 50 = .ok (.iload_n 2, 1) := by decide +kernel
theorem d_M_tellJoints_51 : decode (ab_bc mt_M_tellJoints) 51 = .ok (.imul, 1) := by decide +kernel
theorem d_M_tellJoints_52 : decode (ab_bc mt_M_tellJoints) 52 = .ok (.iload 4, 2) := by decide +kernel
theorem d_M_tellJoints_54 : decode (ab_bc mt_M_tellJoints) 54 = .ok (.iadd, 1) := by decide +kernel
theorem d_M_tellJoints_55 : decode (ab_bc mt_M_tellJoints) 55 = .ok (.iload_n 3, 1) := by decide +kernel
theorem d_M_tellJoints_56 : decode (ab_bc mt_M_tellJoints) 56 = .ok (.ifCond .eq 16, 3) := by decide +kernel
theorem d_M_tellJoints_59 : decode (ab_bc mt_M_tellJoints) 59 = .ok (.iload_n 2, 1) := by decide +kernel
theorem d_M_tellJoints_60 : decode (ab_bc mt_M_tellJoints) 60 = .ok (.iload 4, 2) := by decide +kernel
theorem d_M_tellJoints_62 : decode (ab_bc mt_M_tellJoints) 62 = .ok (.invokestatic 237, 3) := by decide +kernel
theorem d_M_tellJoints_65 : decode (ab_bc mt_M_tellJoints) 65 = .ok (.ifCond .eq 7, 3) := by decide +kernel
theorem d_M_tellJoints_68 : decode (ab_bc mt_M_tellJoints) 68 = .ok (.iconst 0, 1) := by decide +kernel
theorem d_M_tellJoints_69 : decode (ab_bc mt_M_tellJoints) 69 = .ok (.goto 6, 3) := by decide +kernel
theorem d_M_tellJoints_72 : decode (ab_bc mt_M_tellJoints) 72 = .ok (.ldc_w 330, 3) := by decide +kernel
theorem d_M_tellJoints_75 : decode (ab_bc mt_M_tellJoints) 75 = .ok (.iastore, 1) := by decide +kernel
theorem d_M_tellJoints_76 : decode (ab_bc mt_M_tellJoints) 76 = .ok (.iinc 4 1, 3) := by decide +kernel
theorem d_M_tellJoints_79 : decode (ab_bc mt_M_tellJoints) 79 = .ok (.goto (-44), 3) := by decide +kernel
theorem d_M_tellJoints_82 : decode (ab_bc mt_M_tellJoints) 82 = .ok (.iload_n 2, 1) := by decide +kernel
theorem d_M_tellJoints_83 : decode (ab_bc mt_M_tellJoints) 83 = .ok (.iconst 1, 1) := by decide +kernel
theorem d_M_tellJoints_84 : decode (ab_bc mt_M_tellJoints) 84 = .ok (.isub, 1) := by decide +kernel
theorem d_M_tellJoints_85 : decode (ab_bc mt_M_tellJoints) 85 = .ok (.iload_n 2, 1) := by decide +kernel
theorem d_M_tellJoints_86 : decode (ab_bc mt_M_tellJoints) 86 = .ok (.iand, 1) := by decide +kernel
theorem d_M_tellJoints_87 : decode (ab_bc mt_M_tellJoints) 87 = .ok (.istore 4, 2) := by decide +kernel
theorem d_M_tellJoints_89 : decode (ab_bc mt_M_tellJoints) 89 = .ok (.iload 4, 2) := by decide +kernel
theorem d_M_tellJoints_91 : decode (ab_bc mt_M_tellJoints) 91 = .ok (.ifCond .le 74, 3) := by decide +kernel
theorem d_M_tellJoints_94 : decode (ab_bc mt_M_tellJoints) 94 = .ok (.iconst 0, 1) := by decide +kernel
theorem d_M_tellJoints_95 : decode (ab_bc mt_M_tellJoints) 95 = .ok (.istore 5, 2) := by decide +kernel
theorem d_M_tellJoints_97 : decode (ab_bc mt_M_tellJoints) 97 = .ok (.iload 5, 2) := by decide +kernel
theorem d_M_tellJoints_99 : decode (ab_bc mt_M_tellJoints) 99 = .ok (.aload_n 0, 1) := by decide +kernel
theorem d_M_tellJoints_100 : decode (ab_bc mt_M_tellJoints) 100 = .ok (.getfield 21, 3) := by decide +kernel
theorem d_M_tellJoints_103 : decode (ab_bc mt_M_tellJoints) 103 = .ok (.if_icmp .ge 51, 3) := by decide +kernel
theorem d_M_tellJoints_106 : decode (ab_bc mt_M_tellJoints) 106 = .ok (.aload_n 0, 1) := by decide +kernel
theorem d_M_tellJoints_107 : decode (ab_bc mt_M_tellJoints) 107 = .ok (.bipush 10, 2) := by decide +kernel
theorem d_M_tellJoints_109 : decode (ab_bc mt_M_tellJoints) 109 = .ok (.iload_n 2, 1) := by decide +kernel
theorem d_M_tellJoints_110 : decode (ab_bc mt_M_tellJoints) 110 = .ok (.imul, 1) := by decide +kernel
theorem d_M_tellJoints_111 : decode (ab_bc mt_M_tellJoints) 111 = .ok (.iload 5, 2) := by decide +kernel
theorem d_M_tellJoints_113 : decode (ab_bc mt_M_tellJoints) 113 = .ok (.iadd, 1) := by decide +kernel
theorem d_M_tellJoints_114 : decode (ab_bc mt_M_tellJoints) 114 = .ok (.aload_n 0, 1) := by decide +kernel
theorem d_M_tellJoints_115 : decode (ab_bc mt_M_tellJoints) 115 = .ok (.getfield 78, 3) := by decide +kernel
theorem d_M_tellJoints_118 : decode (ab_bc mt_M_tellJoints) 118 = .ok (.bipush 10, 2) := by decide +kernel
theorem d_M_tellJoints_120 : decode (ab_bc mt_M_tellJoints) 120 = .ok (.iload 4, 2) := by decide +kernel
theorem d_M_tellJoints_122 : decode (ab_bc mt_M_tellJoints) 122 = .ok (.imul, 1) := by decide +kernel
theorem d_M_tellJoints_123 : decode (ab_bc mt_M_tellJoints) 123 = .ok (.iload 5, 2) := by decide +kernel
theorem d_M_tellJoints_125 : decode (ab_bc mt_M_tellJoints) 125 = .ok (.iadd, 1) := by decide +kernel
theorem d_M_tellJoints_126 : decode (ab_bc mt_M_tellJoints) 126 = .ok (.iaload, 1) := by decide +kernel
theorem d_M_tellJoints_127 : decode (ab_bc mt_M_tellJoints) 127 = .ok (.aload_n 0, 1) := by decide +kernel
theorem d_M_tellJoints_128 : decode (ab_bc mt_M_tellJoints) 128 = .ok (.getfield 78, 3) := by decide +kernel
theorem d_M_tellJoints_131 : decode (ab_bc mt_M_tellJoints) 131 = .ok (.bipush 10, 2) := by decide +kernel
theorem d_M_tellJoints_133 : decode (ab_bc mt_M_tellJoints) 133 = .ok (.iload_n 2, 1) := by decide +kernel
theorem d_M_tellJoints_134 : decode (ab_bc mt_M_tellJoints) 134 = .ok (.iload 4, 2) := by decide +kernel
theorem d_M_tellJoints_136 : decode (ab_bc mt_M_tellJoints) 136 = .ok (.ixor, 1) := by decide +kernel
theorem d_M_tellJoints_137 : decode (ab_bc mt_M_tellJoints) 137 = .ok (.imul, 1) := by decide +kernel
theorem d_M_tellJoints_138 : decode (ab_bc mt_M_tellJoints) 138 = .ok (.iload 5, 2) := by decide +kernel
theorem d_M_tellJoints_140 : decode (ab_bc mt_M_tellJoints) 140 = .ok (.iadd, 1) := by decide +kernel
theorem d_M_tellJoints_141 : decode (ab_bc mt_M_tellJoints) 141 = .ok (.iaload, 1) := by decide +kernel
theorem d_M_tellJoints_142 : decode (ab_bc mt_M_tellJoints) 142 = .ok (.iadd, 1) := by decide +kernel
theorem d_M_tellJoints_143 : decode (ab_bc mt_M_tellJoints) 143 = .ok (.invokevirtual 422, 3) := by decide +kernel
theorem d_M_tellJoints_146 : decode (ab_bc mt_M_tellJoints) 146 = .ok (.istore 6, 2) := by decide +kernel
theorem d_M_tellJoints_148 : decode (ab_bc mt_M_tellJoints) 148 = .ok (.iinc 5 1, 3) := by decide +kernel
theorem d_M_tellJoints_151 : decode (ab_bc mt_M_tellJoints) 151 = .ok (.goto (-54), 3) := by decide +kernel
theorem d_M_tellJoints_154 : decode (ab_bc mt_M_tellJoints) 154 = .ok (.iload 4, 2) := by decide +kernel
theorem d_M_tellJoints_156 : decode (ab_bc mt_M_tellJoints) 156 = .ok (.iconst 1, 1) := by decide +kernel
theorem d_M_tellJoints_157 : decode (ab_bc mt_M_tellJoints) 157 = .ok (.isub, 1) := by decide +kernel
theorem d_M_tellJoints_158 : decode (ab_bc mt_M_tellJoints) 158 = .ok (.iload_n 2, 1) := by decide +kernel
theorem d_M_tellJoints_159 : decode (ab_bc mt_M_tellJoints) 159 = .ok (.iand, 1) := by decide +kernel
theorem d_M_tellJoints_160 : decode (ab_bc mt_M_tellJoints) 160 = .ok (.istore 4, 2) := by decide +kernel
theorem d_M_tellJoints_162 : decode (ab_bc mt_M_tellJoints) 162 = .ok (.goto (-73), 3) := by decide +kernel
theorem d_M_tellJoints_165 : decode (ab_bc mt_M_tellJoints) 165 = .ok (.aload_n 0, 1) := by decide +kernel
theorem d_M_tellJoints_166 : decode (ab_bc mt_M_tellJoints) 166 = .ok (.iload_n 2, 1) := by decide +kernel
theorem d_M_tellJoints_167 : decode (ab_bc mt_M_tellJoints) 167 = .ok (.invokevirtual 428, 3) := by decide +kernel
theorem d_M_tellJoints_170 : decode (ab_bc mt_M_tellJoints) 170 = .ok (.iinc 2 1, 3) := by decide +kernel
theorem d_M_tellJoints_173 : decode (ab_bc mt_M_tellJoints) 173 = .ok (.goto (-171), 3) := by decide +kernel
theorem d_M_tellJoints_176 : decode (ab_bc mt_M_tellJoints) 176 = .ok (.return_, 1) := by decide +kernel
-- CableKeeperModel.tellJoints(I)V over mx
theorem q_M_tellJoints_0 {w : ab_Wd} {d n nc ns : Nat} {I : Nat → Nat → Int32} {L : Nat → Nat → Int64} {res : ab_Re} (v1 : Int32) (hc : nc ≤ res.2.2.2.2.2.1) (hs : ns ≤ res.2.2.2.2.2.2)
    (h : ab_E w (d + 1) mt_M_tellJoints 2 [.ref mx, .int v1, .int 1, .null, .null, .null, .null] [] (I, L, ab_RR, n, nc, ns) res) : ab_E w (d + 1) mt_M_tellJoints 0 [.ref mx, .int v1, .null, .null, .null, .null, .null] [] (I, L, ab_RR, n, nc, ns) res := by
  refine ab_iconst (v := 1) d_M_tellJoints_0 rfl ?_
  refine ab_istore_n (i := 2) d_M_tellJoints_1 rfl (by decide) (Or.inr rfl) ?_
  exact h
theorem q_M_tellJoints_2 {w : ab_Wd} {d n nc ns : Nat} {I : Nat → Nat → Int32} {L : Nat → Nat → Int64} {res : ab_Re} (v1 : Int32) (v2 : Int32) (hc : nc ≤ res.2.2.2.2.2.1) (hs : ns ≤ res.2.2.2.2.2.2)
    (h : ((v1 < v2 → (res = (.inl none, (I, L, ab_RR, n, nc, ns)))) ∧ (¬ v1 < v2 → (((v2 &&& (v1 ^^^ (-1))) = 0 → (∃ (r3 : Int32), ab_C w d mt_Integer_bitCount [.int v2] (I, L, ab_RR, n, nc, ns) (.inl (some (.int r3)), (I, L, ab_RR, n, nc, ns)) ∧ ((¬ r3 = 1 → (ab_E w (d + 1) mt_M_tellJoints 31 [.ref mx, .int v1, .int v2, .null, .null, .null, .null] [.int 0] (I, L, ab_RR, n, nc, ns) res)) ∧ (r3 = 1 → (ab_E w (d + 1) mt_M_tellJoints 31 [.ref mx, .int v1, .int v2, .null, .null, .null, .null] [.int 1] (I, L, ab_RR, n, nc, ns) res))))) ∧ (¬ (v2 &&& (v1 ^^^ (-1))) = 0 → (ab_E w (d + 1) mt_M_tellJoints 170 [.ref mx, .int v1, .int v2, .null, .null, .null, .null] [] (I, L, ab_RR, n, nc, ns) res)))))) : ab_E w (d + 1) mt_M_tellJoints 2 [.ref mx, .int v1, .int v2, .null, .null, .null, .null] [] (I, L, ab_RR, n, nc, ns) res := by
  refine ab_iload_n (i := 2) d_M_tellJoints_2 rfl rfl ?_
  refine ab_iload_n (i := 1) d_M_tellJoints_3 rfl rfl ?_
  refine ab_icmp_gt (tgt := 176) d_M_tellJoints_4 (by decide) (fun c1 => ?_) (fun c1 => ?_)
  · have h := h.1 c1
    exact ab_vret d_M_tellJoints_176 rfl h
  · have h := h.2 c1
    refine ab_iload_n (i := 2) d_M_tellJoints_7 rfl rfl ?_
    refine ab_iload_n (i := 1) d_M_tellJoints_8 rfl rfl ?_
    refine ab_iconst (v := (-1)) d_M_tellJoints_9 rfl ?_
    refine ab_ixor d_M_tellJoints_10 ?_
    refine ab_iand d_M_tellJoints_11 ?_
    refine ab_if_eq (tgt := 18) d_M_tellJoints_12 (by decide) (fun c2 => ?_) (fun c2 => ?_)
    · have h := h.1 c2
      refine ab_iload_n (i := 2) d_M_tellJoints_18 rfl rfl ?_
      obtain ⟨r3, hC, h⟩ := h
      refine ab_callS (me2 := mt_Integer_bitCount) (as := [.int v2]) (st := []) (rv := (some (.int r3))) (M2 := (I, L, ab_RR, n, nc, ns)) d_M_tellJoints_19 ce_Integer_bitCount ⟨v_965, Or.inl v_1879⟩ (Nat.le_of_ble_eq_true rfl) hC (Nat.le_refl _) (Nat.le_refl _) hc hs (fun j h9 => by cases h9) (fun _ _ => rfl) ?_
      show ab_E w (d + 1) mt_M_tellJoints 22 [.ref mx, .int v1, .int v2, .null, .null, .null, .null] [.int r3] (I, L, ab_RR, n, nc, ns) res
      refine ab_iconst (v := 1) d_M_tellJoints_22 rfl ?_
      refine ab_icmp_ne (tgt := 30) d_M_tellJoints_23 (by decide) (fun c4 => ?_) (fun c4 => ?_)
      · have h := h.1 c4
        refine ab_iconst (v := 0) d_M_tellJoints_30 rfl ?_
        exact h
      · have h := h.2 c4
        refine ab_iconst (v := 1) d_M_tellJoints_26 rfl ?_
        refine ab_goto (tgt := 31) d_M_tellJoints_27 (by decide) ?_
        exact h
    · have h := h.2 c2
      refine ab_goto (tgt := 170) d_M_tellJoints_15 (by decide) ?_
      exact h
theorem q_M_tellJoints_31 {w : ab_Wd} {d n nc ns : Nat} {I : Nat → Nat → Int32} {L : Nat → Nat → Int64} {res : ab_Re} (v1 : Int32) (v2 : Int32) (s0 : Int32) (hc : nc ≤ res.2.2.2.2.2.1) (hs : ns ≤ res.2.2.2.2.2.2)
    (h : ab_E w (d + 1) mt_M_tellJoints 35 [.ref mx, .int v1, .int v2, .int s0, .int 0, .null, .null] [] (I, L, ab_RR, n, nc, ns) res) : ab_E w (d + 1) mt_M_tellJoints 31 [.ref mx, .int v1, .int v2, .null, .null, .null, .null] [.int s0] (I, L, ab_RR, n, nc, ns) res := by
  refine ab_istore_n (i := 3) d_M_tellJoints_31 rfl (by decide) (Or.inr rfl) ?_
  refine ab_iconst (v := 0) d_M_tellJoints_32 rfl ?_
  refine ab_istore (i := 4) d_M_tellJoints_33 (by decide) (Or.inr rfl) ?_
  exact h
theorem q_M_tellJoints_35 {w : ab_Wd} {d n nc ns : Nat} {I : Nat → Nat → Int32} {L : Nat → Nat → Int64} {res : ab_Re} (v1 : Int32) (v2 : Int32) (v3 : Int32) (v4 : Int32) (hc : nc ≤ res.2.2.2.2.2.1) (hs : ns ≤ res.2.2.2.2.2.2)
    (h : (((I mx 2) ≤ v4 → (ab_E w (d + 1) mt_M_tellJoints 89 [.ref mx, .int v1, .int v2, .int v3, .int ((v2 - 1) &&& v2), .null, .null] [] (I, L, ab_RR, n, nc, ns) res)) ∧ (¬ (I mx 2) ≤ v4 → ((v3 = 0 → (ab_E w (d + 1) mt_M_tellJoints 72 [.ref mx, .int v1, .int v2, .int v3, .int v4, .null, .null] [.int ((10 * v2) + v4), .ref mx_joint] (I, L, ab_RR, n, nc, ns) res)) ∧ (¬ v3 = 0 → (∃ (r3 : Int32), ab_C w d mt_M_has [.int v2, .int v4] (I, L, ab_RR, n, nc, ns) (.inl (some (.int r3)), (I, L, ab_RR, n, nc, ns)) ∧ ((r3 = 0 → (ab_E w (d + 1) mt_M_tellJoints 72 [.ref mx, .int v1, .int v2, .int v3, .int v4, .null, .null] [.int ((10 * v2) + v4), .ref mx_joint] (I, L, ab_RR, n, nc, ns) res)) ∧ (¬ r3 = 0 → (ab_E w (d + 1) mt_M_tellJoints 75 [.ref mx, .int v1, .int v2, .int v3, .int v4, .null, .null] [.int 0, .int ((10 * v2) + v4), .ref mx_joint] (I, L, ab_RR, n, nc, ns) res))))))))) : ab_E w (d + 1) mt_M_tellJoints 35 [.ref mx, .int v1, .int v2, .int v3, .int v4, .null, .null] [] (I, L, ab_RR, n, nc, ns) res := by
  refine ab_iload (i := 4) d_M_tellJoints_35 rfl ?_
  refine ab_aload_n (i := 0) d_M_tellJoints_37 rfl rfl ?_
  refine ab_getI (ci := 11) (k := 2) d_M_tellJoints_38 v_1370 rfl (by decide) (by decide) rfl ?_
  refine ab_icmp_ge (tgt := 82) d_M_tellJoints_41 (by decide) (fun c1 => ?_) (fun c1 => ?_)
  · have h := h.1 c1
    refine ab_iload_n (i := 2) d_M_tellJoints_82 rfl rfl ?_
    refine ab_iconst (v := 1) d_M_tellJoints_83 rfl ?_
    refine ab_isub d_M_tellJoints_84 ?_
    refine ab_iload_n (i := 2) d_M_tellJoints_85 rfl rfl ?_
    refine ab_iand d_M_tellJoints_86 ?_
    refine ab_istore (i := 4) d_M_tellJoints_87 (by decide) (Or.inr rfl) ?_
    exact h
  · have h := h.2 c1
    refine ab_aload_n (i := 0) d_M_tellJoints_44 rfl rfl ?_
    refine ab_getR (ci := 11) (k := 40) (j := mx_joint) d_M_tellJoints_45 v_1408 rfl (by decide) (by decide) rfl r_mx_40 ?_
    refine ab_bipush (v := 10) d_M_tellJoints_48 rfl ?_
    refine ab_iload_n (i := 2) d_M_tellJoints_50 rfl rfl ?_
    refine ab_imul d_M_tellJoints_51 ?_
    refine ab_iload (i := 4) d_M_tellJoints_52 rfl ?_
    refine ab_iadd d_M_tellJoints_54 ?_
    refine ab_iload_n (i := 3) d_M_tellJoints_55 rfl rfl ?_
    refine ab_if_eq (tgt := 72) d_M_tellJoints_56 (by decide) (fun c2 => ?_) (fun c2 => ?_)
    · have h := h.1 c2
      exact h
    · have h := h.2 c2
      refine ab_iload_n (i := 2) d_M_tellJoints_59 rfl rfl ?_
      refine ab_iload (i := 4) d_M_tellJoints_60 rfl ?_
      obtain ⟨r3, hC, h⟩ := h
      refine ab_callS (me2 := mt_M_has) (as := [.int v2, .int v4]) (st := [.int ((10 * v2) + v4), .ref mx_joint]) (rv := (some (.int r3))) (M2 := (I, L, ab_RR, n, nc, ns)) d_M_tellJoints_62 ce_M_has ⟨v_1648, Or.inl v_1647⟩ (Nat.le_of_ble_eq_true rfl) hC (Nat.le_refl _) (Nat.le_refl _) hc hs (fun j h9 => by cases h9) (fun _ _ => rfl) ?_
      show ab_E w (d + 1) mt_M_tellJoints 65 [.ref mx, .int v1, .int v2, .int v3, .int v4, .null, .null] [.int r3, .int ((10 * v2) + v4), .ref mx_joint] (I, L, ab_RR, n, nc, ns) res
      refine ab_if_eq (tgt := 72) d_M_tellJoints_65 (by decide) (fun c4 => ?_) (fun c4 => ?_)
      · have h := h.1 c4
        exact h
      · have h := h.2 c4
        refine ab_iconst (v := 0) d_M_tellJoints_68 rfl ?_
        refine ab_goto (tgt := 75) d_M_tellJoints_69 (by decide) ?_
        exact h
theorem q_M_tellJoints_72 {w : ab_Wd} {d n nc ns : Nat} {I : Nat → Nat → Int32} {L : Nat → Nat → Int64} {res : ab_Re} (v1 : Int32) (v2 : Int32) (v3 : Int32) (v4 : Int32) (s1 : Int32) (hc : nc ≤ res.2.2.2.2.2.1) (hs : ns ≤ res.2.2.2.2.2.2)
    (h : ab_E w (d + 1) mt_M_tellJoints 75 [.ref mx, .int v1, .int v2, .int v3, .int v4, .null, .null] [.int 1000000, .int s1, .ref mx_joint] (I, L, ab_RR, n, nc, ns) res) : ab_E w (d + 1) mt_M_tellJoints 72 [.ref mx, .int v1, .int v2, .int v3, .int v4, .null, .null] [.int s1, .ref mx_joint] (I, L, ab_RR, n, nc, ns) res := by
  refine ab_ldcw (v := 1000000) d_M_tellJoints_72 v_1743 ?_
  exact h
theorem q_M_tellJoints_75 {w : ab_Wd} {d n nc ns : Nat} {I : Nat → Nat → Int32} {L : Nat → Nat → Int64} {res : ab_Re} (v1 : Int32) (v2 : Int32) (v3 : Int32) (v4 : Int32) (s1 : Int32) (s2 : Int32) (hc : nc ≤ res.2.2.2.2.2.1) (hs : ns ≤ res.2.2.2.2.2.2)
    (h : (vp_in s1 10240) ∧ ab_E w (d + 1) mt_M_tellJoints 35 [.ref mx, .int v1, .int v2, .int v3, .int (v4 + 1), .null, .null] [] ((ab_up I mx_joint s1.toNatClampNeg s2), L, ab_RR, n, nc, ns) res) : ab_E w (d + 1) mt_M_tellJoints 75 [.ref mx, .int v1, .int v2, .int v3, .int v4, .null, .null] [.int s2, .int s1, .ref mx_joint] (I, L, ab_RR, n, nc, ns) res := by
  have g1 := h.1; have h := h.2
  refine ab_iast d_M_tellJoints_75 rfl rfl g1 ?_
  refine ab_iinc (i := 4) (v := (v4 + 1)) d_M_tellJoints_76 rfl rfl (by decide) (Or.inr rfl) ?_
  refine ab_goto (tgt := 35) d_M_tellJoints_79 (by decide) ?_
  exact h
theorem q_M_tellJoints_89 {w : ab_Wd} {d n nc ns : Nat} {I : Nat → Nat → Int32} {L : Nat → Nat → Int64} {res : ab_Re} (v1 : Int32) (v2 : Int32) (v3 : Int32) (v4 : Int32) (hc : nc ≤ res.2.2.2.2.2.1) (hs : ns ≤ res.2.2.2.2.2.2)
    (h : ((v4 ≤ 0 → (∃ (I3 : Nat → Nat → Int32), ab_C w d mt_M_spreads [.ref mx, .int v2] (I, L, ab_RR, n, nc, ns) (.inl none, (I3, L, ab_RR, n, nc, ns)) ∧ ab_E w (d + 1) mt_M_tellJoints 170 [.ref mx, .int v1, .int v2, .null, .null, .null, .null] [] (I3, L, ab_RR, n, nc, ns) res)) ∧ (¬ v4 ≤ 0 → (ab_E w (d + 1) mt_M_tellJoints 97 [.ref mx, .int v1, .int v2, .int v3, .int v4, .int 0, .null] [] (I, L, ab_RR, n, nc, ns) res)))) : ab_E w (d + 1) mt_M_tellJoints 89 [.ref mx, .int v1, .int v2, .int v3, .int v4, .null, .null] [] (I, L, ab_RR, n, nc, ns) res := by
  refine ab_iload (i := 4) d_M_tellJoints_89 rfl ?_
  refine ab_if_le (tgt := 165) d_M_tellJoints_91 (by decide) (fun c1 => ?_) (fun c1 => ?_)
  · have h := h.1 c1
    refine ab_aload_n (i := 0) d_M_tellJoints_165 rfl rfl ?_
    refine ab_iload_n (i := 2) d_M_tellJoints_166 rfl rfl ?_
    obtain ⟨I3, hC, h⟩ := h
    refine ab_callV (me2 := mt_M_spreads) (b := mx) (as := [.int v2]) (st := []) (rv := none) (M2 := (I3, L, ab_RR, n, nc, ns)) d_M_tellJoints_167 ce_M_spreads v_1888 v_1890 v_127 (by decide) rfl (Nat.le_of_ble_eq_true rfl) hC (Nat.le_refl _) (Nat.le_refl _) hc hs (fun j h9 => by cases h9) (fun _ _ => rfl) ?_
    show ab_E w (d + 1) mt_M_tellJoints 170 [.ref mx, .int v1, .int v2, .int v3, .int v4, .null, .null] [] (I3, L, ab_RR, n, nc, ns) res
    refine ab_drop 3 ?_
    refine ab_drop 4 ?_
    exact h
  · have h := h.2 c1
    refine ab_iconst (v := 0) d_M_tellJoints_94 rfl ?_
    refine ab_istore (i := 5) d_M_tellJoints_95 (by decide) (Or.inr rfl) ?_
    exact h
theorem q_M_tellJoints_97 {w : ab_Wd} {d n nc ns : Nat} {I : Nat → Nat → Int32} {L : Nat → Nat → Int64} {res : ab_Re} (v1 : Int32) (v2 : Int32) (v3 : Int32) (v4 : Int32) (v5 : Int32) (hc : nc ≤ res.2.2.2.2.2.1) (hs : ns ≤ res.2.2.2.2.2.2)
    (h : (((I mx 2) ≤ v5 → (ab_E w (d + 1) mt_M_tellJoints 89 [.ref mx, .int v1, .int v2, .int v3, .int ((v4 - 1) &&& v2), .null, .null] [] (I, L, ab_RR, n, nc, ns) res)) ∧ (¬ (I mx 2) ≤ v5 → ((vp_in ((10 * v4) + v5) 10240) ∧ (vp_in ((10 * (v2 ^^^ v4)) + v5) 10240) ∧ ∃ (r4 : Int32) (I5 : Nat → Nat → Int32), ab_C w d mt_M_lessens [.ref mx, .int ((10 * v2) + v5), .int ((I mx_joint ((10 * v4) + v5).toNatClampNeg) + (I mx_joint ((10 * (v2 ^^^ v4)) + v5).toNatClampNeg))] (I, L, ab_RR, n, nc, ns) (.inl (some (.int r4)), (I5, L, ab_RR, n, nc, ns)) ∧ ab_E w (d + 1) mt_M_tellJoints 97 [.ref mx, .int v1, .int v2, .int v3, .int v4, .int (v5 + 1), .null] [] (I5, L, ab_RR, n, nc, ns) res)))) : ab_E w (d + 1) mt_M_tellJoints 97 [.ref mx, .int v1, .int v2, .int v3, .int v4, .int v5, .null] [] (I, L, ab_RR, n, nc, ns) res := by
  refine ab_iload (i := 5) d_M_tellJoints_97 rfl ?_
  refine ab_aload_n (i := 0) d_M_tellJoints_99 rfl rfl ?_
  refine ab_getI (ci := 11) (k := 2) d_M_tellJoints_100 v_1370 rfl (by decide) (by decide) rfl ?_
  refine ab_icmp_ge (tgt := 154) d_M_tellJoints_103 (by decide) (fun c1 => ?_) (fun c1 => ?_)
  · have h := h.1 c1
    refine ab_iload (i := 4) d_M_tellJoints_154 rfl ?_
    refine ab_iconst (v := 1) d_M_tellJoints_156 rfl ?_
    refine ab_isub d_M_tellJoints_157 ?_
    refine ab_iload_n (i := 2) d_M_tellJoints_158 rfl rfl ?_
    refine ab_iand d_M_tellJoints_159 ?_
    refine ab_istore (i := 4) d_M_tellJoints_160 (by decide) (Or.inr rfl) ?_
    refine ab_goto (tgt := 89) d_M_tellJoints_162 (by decide) ?_
    refine ab_drop 5 ?_
    exact h
  · have h := h.2 c1
    refine ab_aload_n (i := 0) d_M_tellJoints_106 rfl rfl ?_
    refine ab_bipush (v := 10) d_M_tellJoints_107 rfl ?_
    refine ab_iload_n (i := 2) d_M_tellJoints_109 rfl rfl ?_
    refine ab_imul d_M_tellJoints_110 ?_
    refine ab_iload (i := 5) d_M_tellJoints_111 rfl ?_
    refine ab_iadd d_M_tellJoints_113 ?_
    refine ab_aload_n (i := 0) d_M_tellJoints_114 rfl rfl ?_
    refine ab_getR (ci := 11) (k := 40) (j := mx_joint) d_M_tellJoints_115 v_1408 rfl (by decide) (by decide) rfl r_mx_40 ?_
    refine ab_bipush (v := 10) d_M_tellJoints_118 rfl ?_
    refine ab_iload (i := 4) d_M_tellJoints_120 rfl ?_
    refine ab_imul d_M_tellJoints_122 ?_
    refine ab_iload (i := 5) d_M_tellJoints_123 rfl ?_
    refine ab_iadd d_M_tellJoints_125 ?_
    have g2 := h.1; have h := h.2
    refine ab_iald d_M_tellJoints_126 rfl rfl g2 ?_
    refine ab_aload_n (i := 0) d_M_tellJoints_127 rfl rfl ?_
    refine ab_getR (ci := 11) (k := 40) (j := mx_joint) d_M_tellJoints_128 v_1408 rfl (by decide) (by decide) rfl r_mx_40 ?_
    refine ab_bipush (v := 10) d_M_tellJoints_131 rfl ?_
    refine ab_iload_n (i := 2) d_M_tellJoints_133 rfl rfl ?_
    refine ab_iload (i := 4) d_M_tellJoints_134 rfl ?_
    refine ab_ixor d_M_tellJoints_136 ?_
    refine ab_imul d_M_tellJoints_137 ?_
    refine ab_iload (i := 5) d_M_tellJoints_138 rfl ?_
    refine ab_iadd d_M_tellJoints_140 ?_
    have g3 := h.1; have h := h.2
    refine ab_iald d_M_tellJoints_141 rfl rfl g3 ?_
    refine ab_iadd d_M_tellJoints_142 ?_
    obtain ⟨r4, I5, hC, h⟩ := h
    refine ab_callV (me2 := mt_M_lessens) (b := mx) (as := [.int ((10 * v2) + v5), .int ((I mx_joint ((10 * v4) + v5).toNatClampNeg) + (I mx_joint ((10 * (v2 ^^^ v4)) + v5).toNatClampNeg))]) (st := []) (rv := (some (.int r4))) (M2 := (I5, L, ab_RR, n, nc, ns)) d_M_tellJoints_143 ce_M_lessens v_1884 v_1886 v_126 (by decide) rfl (Nat.le_of_ble_eq_true rfl) hC (Nat.le_refl _) (Nat.le_refl _) hc hs (fun j h9 => by cases h9) (fun _ _ => rfl) ?_
    show ab_E w (d + 1) mt_M_tellJoints 146 [.ref mx, .int v1, .int v2, .int v3, .int v4, .int v5, .null] [.int r4] (I5, L, ab_RR, n, nc, ns) res
    refine ab_istore (i := 6) d_M_tellJoints_146 (by decide) (Or.inr rfl) ?_
    refine ab_iinc (i := 5) (v := (v5 + 1)) d_M_tellJoints_148 rfl rfl (by decide) (Or.inr rfl) ?_
    refine ab_goto (tgt := 97) d_M_tellJoints_151 (by decide) ?_
    refine ab_drop 6 ?_
    exact h
theorem q_M_tellJoints_170 {w : ab_Wd} {d n nc ns : Nat} {I : Nat → Nat → Int32} {L : Nat → Nat → Int64} {res : ab_Re} (v1 : Int32) (v2 : Int32) (hc : nc ≤ res.2.2.2.2.2.1) (hs : ns ≤ res.2.2.2.2.2.2)
    (h : ab_E w (d + 1) mt_M_tellJoints 2 [.ref mx, .int v1, .int (v2 + 1), .null, .null, .null, .null] [] (I, L, ab_RR, n, nc, ns) res) : ab_E w (d + 1) mt_M_tellJoints 170 [.ref mx, .int v1, .int v2, .null, .null, .null, .null] [] (I, L, ab_RR, n, nc, ns) res := by
  refine ab_iinc (i := 2) (v := (v2 + 1)) d_M_tellJoints_170 rfl rfl (by decide) (Or.inr rfl) ?_
  refine ab_goto (tgt := 2) d_M_tellJoints_173 (by decide) ?_
  exact h
