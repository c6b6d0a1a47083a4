theorem d_M_lays_0 : decode (ab_bc mt_M_lays) 0 = .ok (.iload_n 1, 1) := by decide +kernel
theorem d_M_lays_1 : decode (ab_bc mt_M_lays) 1 = .ok (.iconst (-1), 1) := by decide +kernel
theorem d_M_lays_2 : decode (ab_bc mt_M_lays) 2 = .ok (.if_icmp .eq 23, 3) := by decide +kernel
theorem d_M_lays_5 : decode (ab_bc mt_M_lays) 5 = .ok (.iload_n 2, 1) := by decide +kernel
theorem d_M_lays_6 : decode (ab_bc mt_M_lays) 6 = .ok (.iconst (-1), 1) := by decide +kernel
theorem d_M_lays_7 : decode (ab_bc mt_M_lays) 7 = .ok (.if_icmp .eq 18, 3) := by decide +kernel
theorem d_M_lays_10 : decode (ab_bc mt_M_lays) 10 = .ok (.aload_n 0, 1) := by decide +kernel
theorem d_M_lays_11 : decode (ab_bc mt_M_lays) 11 = .ok (.getfield 74, 3) := by decide +kernel
theorem d_M_lays_14 : decode (ab_bc mt_M_lays) 14 = .ok (.bipush 10, 2) := by decide +kernel
theorem d_M_lays_16 : decode (ab_bc mt_M_lays) 16 = .ok (.iload_n 1, 1) := by decide +kernel
theorem d_M_lays_17 : decode (ab_bc mt_M_lays) 17 = .ok (.imul, 1) := by decide +kernel
theorem d_M_lays_18 : decode (ab_bc mt_M_lays) 18 = .ok (.iload_n 2, 1) := by decide +kernel
theorem d_M_lays_19 : decode (ab_bc mt_M_lays) 19 = .ok (.iadd, 1) := by decide +kernel
theorem d_M_lays_20 : decode (ab_bc mt_M_lays) 20 = .ok (.dup2, 1) := by decide +kernel
theorem d_M_lays_21 : decode (ab_bc mt_M_lays) 21 = .ok (.laload, 1) := by decide +kernel
theorem d_M_lays_22 : decode (ab_bc mt_M_lays) 22 = .ok (.lload_n 3, 1) := by decide +kernel
theorem d_M_lays_23 : decode (ab_bc mt_M_lays) 23 = .ok (.ladd, 1) := by decide +kernel
theorem d_M_lays_24 : decode (ab_bc mt_M_lays) 24 = .ok (.lastore, 1) := by decide +kernel
theorem d_M_lays_25 : decode (ab_bc mt_M_lays) 25 = .ok (.return_, 1) := by decide +kernel
-- CableKeeperModel.lays(IIJ)V over mx
theorem q_M_lays_0 {w : ab_Wd} {d n nc ns : Nat} {I : Nat → Nat → Int32} {L : Nat → Nat → Int64} {res : ab_Re} (v1 : Int32) (v2 : Int32) (v3 : Int64) (hc : nc ≤ res.2.2.2.2.2.1) (hs : ns ≤ res.2.2.2.2.2.2)
    (h : ((v1 = (-1) → (ab_E w d mt_M_lays 25 [.ref mx, .int v1, .int v2, .long v3, .null] [] (I, L, ab_RR, n, nc, ns) res)) ∧ (¬ v1 = (-1) → ((v2 = (-1) → (ab_E w d mt_M_lays 25 [.ref mx, .int v1, .int v2, .long v3, .null] [] (I, L, ab_RR, n, nc, ns) res)) ∧ (¬ v2 = (-1) → ((vp_in ((10 * v1) + v2) 100) ∧ ab_E w d mt_M_lays 25 [.ref mx, .int v1, .int v2, .long v3, .null] [] (I, (ab_upL L mx_laplace ((10 * v1) + v2).toNatClampNeg ((L mx_laplace ((10 * v1) + v2).toNatClampNeg) + v3)), ab_RR, n, nc, ns) res)))))) : ab_E w d mt_M_lays 0 [.ref mx, .int v1, .int v2, .long v3, .null] [] (I, L, ab_RR, n, nc, ns) res := by
  refine ab_iload_n (i := 1) d_M_lays_0 rfl rfl ?_
  refine ab_iconst (v := (-1)) d_M_lays_1 rfl ?_
  refine ab_icmp_eq (tgt := 25) d_M_lays_2 (by decide) (fun c1 => ?_) (fun c1 => ?_)
  · have h := h.1 c1
    exact h
  · have h := h.2 c1
    refine ab_iload_n (i := 2) d_M_lays_5 rfl rfl ?_
    refine ab_iconst (v := (-1)) d_M_lays_6 rfl ?_
    refine ab_icmp_eq (tgt := 25) d_M_lays_7 (by decide) (fun c2 => ?_) (fun c2 => ?_)
    · have h := h.1 c2
      exact h
    · have h := h.2 c2
      refine ab_aload_n (i := 0) d_M_lays_10 rfl rfl ?_
      refine ab_getR (ci := 11) (k := 36) (j := mx_laplace) d_M_lays_11 v_1404 rfl (by decide) (by decide) rfl r_mx_36 ?_
      refine ab_bipush (v := 10) d_M_lays_14 rfl ?_
      refine ab_iload_n (i := 1) d_M_lays_16 rfl rfl ?_
      refine ab_imul d_M_lays_17 ?_
      refine ab_iload_n (i := 2) d_M_lays_18 rfl rfl ?_
      refine ab_iadd d_M_lays_19 ?_
      refine ab_dup2 d_M_lays_20 ?_
      have g3 := h.1; have h := h.2
      refine ab_lald d_M_lays_21 rfl rfl g3 ?_
      refine ab_lload_n (i := 3) d_M_lays_22 rfl rfl ?_
      refine ab_ladd d_M_lays_23 ?_
      refine ab_last d_M_lays_24 rfl rfl g3 ?_
      exact h
theorem q_M_lays_25 {w : ab_Wd} {d n nc ns : Nat} {I : Nat → Nat → Int32} {L : Nat → Nat → Int64} {res : ab_Re} (v1 : Int32) (v2 : Int32) (v3 : Int64) (hc : nc ≤ res.2.2.2.2.2.1) (hs : ns ≤ res.2.2.2.2.2.2)
    (h : res = (.inl none, (I, L, ab_RR, n, nc, ns))) : ab_E w d mt_M_lays 25 [.ref mx, .int v1, .int v2, .long v3, .null] [] (I, L, ab_RR, n, nc, ns) res := by
  exact ab_vret d_M_lays_25 rfl h
theorem d_M_alike_0 : decode (ab_bc mt_M_alike) 0 = .ok (.aload_n 0, 1) := by decide +kernel
theorem d_M_alike_1 : decode (ab_bc mt_M_alike) 1 = .ok (.iconst 0, 1) := by decide +kernel
theorem d_M_alike_2 : decode (ab_bc mt_M_alike) 2 = .ok (.putfield 108, 3) := by decide +kernel
theorem d_M_alike_5 : decode (ab_bc mt_M_alike) 5 = .ok (.lconst 1, 1) := by decide +kernel
theorem d_M_alike_6 : decode (ab_bc mt_M_alike) 6 = .ok (.lstore_n 1, 1) := by decide +kernel
theorem d_M_alike_7 : decode (ab_bc mt_M_alike) 7 = .ok (.iconst 1, 1) := by decide +kernel
theorem d_M_alike_8 : decode (ab_bc mt_M_alike) 8 = .ok (.istore_n 3, 1) := by decide +kernel
theorem d_M_alike_9 : decode (ab_bc mt_M_alike) 9 = .ok (.iload_n 3, 1) := by decide +kernel
theorem d_M_alike_10 : decode (ab_bc mt_M_alike) 10 = .ok (.sipush 999, 3) := by decide +kernel
theorem d_M_alike_13 : decode (ab_bc mt_M_alike) 13 = .ok (.if_icmp .gt 78, 3) := by decide +kernel
theorem d_M_alike_16 : decode (ab_bc mt_M_alike) 16 = .ok (.iconst 0, 1) := by decide +kernel
theorem d_M_alike_17 : decode (ab_bc mt_M_alike) 17 = .ok (.istore 4, 2) := by decide +kernel
theorem d_M_alike_19 : decode (ab_bc mt_M_alike) 19 = .ok (.iconst 0, 1) := by decide +kernel
theorem d_M_alike_20 : decode (ab_bc mt_M_alike) 20 = .ok (.istore 5, 2) := by decide +kernel
theorem d_M_alike_22 : decode (ab_bc mt_M_alike) 22 = .ok (.iload 5, 2) := by decide +kernel
theorem d_M_alike_24 : decode (ab_bc mt_M_alike) 24 = .ok (.aload_n 0, 1) := by decide +kernel
theorem d_M_alike_25 : decode (ab_bc mt_M_alike) 25 = .ok (.invokevirtual 234, 3) := by decide +kernel
theorem d_M_alike_28 : decode (ab_bc mt_M_alike) 28 = .ok (.if_icmp .ge 40, 3) := by decide +kernel
theorem d_M_alike_31 : decode (ab_bc mt_M_alike) 31 = .ok (.iload 4, 2) := by decide +kernel
theorem d_M_alike_33 : decode (ab_bc mt_M_alike) 33 = .ok (.ifCond .ne 22, 3) := by decide +kernel
theorem d_M_alike_36 : decode (ab_bc mt_M_alike) 36 = .ok (.aload_n 0, 1) := by decide +kernel
theorem d_M_alike_37 : decode (ab_bc mt_M_alike) 37 = .ok (.iload 5, 2) := by decide +kernel
theorem d_M_alike_39 : decode (ab_bc mt_M_alike) 39 = .ok (.invokevirtual 262, 3) := by decide +kernel
theorem d_M_alike_42 : decode (ab_bc mt_M_alike) 42 = .ok (.ifCond .eq 17, 3) := by decide +kernel
theorem d_M_alike_45 : decode (ab_bc mt_M_alike) 45 = .ok (.aload_n 0, 1) := by decide +kernel
theorem d_M_alike_46 : decode (ab_bc mt_M_alike) 46 = .ok (.iload 5, 2) := by decide +kernel
theorem d_M_alike_48 : decode (ab_bc mt_M_alike) 48 = .ok (.invokevirtual 222, 3) := by decide +kernel
theorem d_M_alike_51 : decode (ab_bc mt_M_alike) 51 = .ok (.iload_n 3, 1) := by decide +kernel
theorem d_M_alike_52 : decode (ab_bc mt_M_alike) 52 = .ok (.if_icmp .ne 7, 3) := by decide +kernel
theorem d_M_alike_55 : decode (ab_bc mt_M_alike) 55 = .ok (.iconst 1, 1) := by decide +kernel
theorem d_M_alike_56 : decode (ab_bc mt_M_alike) 56 = .ok (.goto 4, 3) := by decide +kernel
theorem d_M_alike_59 : decode (ab_bc mt_M_alike) 59 = .ok (.iconst 0, 1) := by decide +kernel
theorem d_M_alike_60 : decode (ab_bc mt_M_alike) 60 = .ok (.istore 4, 2) := by decide +kernel
theorem d_M_alike_62 : decode (ab_bc mt_M_alike) 62 = .ok (.iinc 5 1, 3) := by decide +kernel
theorem d_M_alike_65 : decode (ab_bc mt_M_alike) 65 = .ok (.goto (-43), 3) := by decide +kernel
theorem d_M_alike_68 : decode (ab_bc mt_M_alike) 68 = .ok (.lload_n 1, 1) := by decide +kernel
theorem d_M_alike_69 : decode (ab_bc mt_M_alike) 69 = .ok (.iload 4, 2) := by decide +kernel
theorem d_M_alike_71 : decode (ab_bc mt_M_alike) 71 = .ok (.ifCond .eq 11, 3) := by decide +kernel
theorem d_M_alike_74 : decode (ab_bc mt_M_alike) 74 = .ok (.aload_n 0, 1) := by decide +kernel
theorem d_M_alike_75 : decode (ab_bc mt_M_alike) 75 = .ok (.iload_n 3, 1) := by decide +kernel
theorem d_M_alike_76 : decode (ab_bc mt_M_alike) 76 = .ok (.invokevirtual 385, 3) := by decide +kernel
theorem d_M_alike_79 : decode (ab_bc mt_M_alike) 79 = .ok (.goto 4, 3) := by decide +kernel
theorem d_M_alike_82 : decode (ab_bc mt_M_alike) 82 = .ok (.lconst 1, 1) := by decide +kernel
theorem d_M_alike_83 : decode (ab_bc mt_M_alike) 83 = .ok (.lmul, 1) := by decide +kernel
theorem d_M_alike_84 : decode (ab_bc mt_M_alike) 84 = .ok (.lstore_n 1, 1) := by decide +kernel
theorem d_M_alike_85 : decode (ab_bc mt_M_alike) 85 = .ok (.iinc 3 1, 3) := by decide +kernel
theorem d_M_alike_88 : decode (ab_bc mt_M_alike) 88 = .ok (.goto (-79), 3) := by decide +kernel
theorem d_M_alike_91 : decode (ab_bc mt_M_alike) 91 = .ok (.lload_n 1, 1) := by decide +kernel
theorem d_M_alike_92 : decode (ab_bc mt_M_alike) 92 = .ok (.lreturn, 1) := by decide +kernel
-- CableKeeperModel.alike()J over mx
theorem q_M_alike_0 {w : ab_Wd} {d n nc ns : Nat} {I : Nat → Nat → Int32} {L : Nat → Nat → Int64} {res : ab_Re}  (hc : nc ≤ res.2.2.2.2.2.1) (hs : ns ≤ res.2.2.2.2.2.2)
    (h : ab_E w (d + 1) mt_M_alike 9 [.ref mx, .long 1, .null, .int 1, .null, .null] [] ((ab_up I mx 1 0), L, ab_RR, n, nc, ns) res) : ab_E w (d + 1) mt_M_alike 0 [.ref mx, .null, .null, .null, .null, .null] [] (I, L, ab_RR, n, nc, ns) res := by
  refine ab_aload_n (i := 0) d_M_alike_0 rfl rfl ?_
  refine ab_iconst (v := 0) d_M_alike_1 rfl ?_
  refine ab_putI (ci := 11) (k := 1) d_M_alike_2 v_1369 rfl (by decide) (by decide) rfl (Or.inl rfl) rfl rfl ?_
  refine ab_lconst (v := 1) d_M_alike_5 rfl ?_
  refine ab_lstore_n (i := 1) d_M_alike_6 rfl (by decide) (Or.inr rfl) ?_
  refine ab_iconst (v := 1) d_M_alike_7 rfl ?_
  refine ab_istore_n (i := 3) d_M_alike_8 rfl (by decide) (Or.inr rfl) ?_
  exact h
theorem q_M_alike_9 {w : ab_Wd} {d n nc ns : Nat} {I : Nat → Nat → Int32} {L : Nat → Nat → Int64} {res : ab_Re} (v1 : Int64) (v3 : Int32) (hc : nc ≤ res.2.2.2.2.2.1) (hs : ns ≤ res.2.2.2.2.2.2)
    (h : ((999 < v3 → (res = (.inl (some (.long v1)), (I, L, ab_RR, n, nc, ns)))) ∧ (¬ 999 < v3 → (ab_E w (d + 1) mt_M_alike 22 [.ref mx, .long v1, .null, .int v3, .int 0, .int 0] [] (I, L, ab_RR, n, nc, ns) res)))) : ab_E w (d + 1) mt_M_alike 9 [.ref mx, .long v1, .null, .int v3, .null, .null] [] (I, L, ab_RR, n, nc, ns) res := by
  refine ab_iload_n (i := 3) d_M_alike_9 rfl rfl ?_
  refine ab_sipush (v := 999) d_M_alike_10 rfl ?_
  refine ab_icmp_gt (tgt := 91) d_M_alike_13 (by decide) (fun c1 => ?_) (fun c1 => ?_)
  · have h := h.1 c1
    refine ab_lload_n (i := 1) d_M_alike_91 rfl rfl ?_
    exact ab_lret d_M_alike_92 rfl h
  · have h := h.2 c1
    refine ab_iconst (v := 0) d_M_alike_16 rfl ?_
    refine ab_istore (i := 4) d_M_alike_17 (by decide) (Or.inr rfl) ?_
    refine ab_iconst (v := 0) d_M_alike_19 rfl ?_
    refine ab_istore (i := 5) d_M_alike_20 (by decide) (Or.inr rfl) ?_
    exact h
theorem q_M_alike_22 {w : ab_Wd} {d n nc ns : Nat} {I : Nat → Nat → Int32} {L : Nat → Nat → Int64} {res : ab_Re} (v1 : Int64) (v3 : Int32) (v4 : Int32) (v5 : Int32) (hc : nc ≤ res.2.2.2.2.2.1) (hs : ns ≤ res.2.2.2.2.2.2)
    (h : ∃ (r1 : Int32), ab_C w d mt_M_many [.ref mx] (I, L, ab_RR, n, nc, ns) (.inl (some (.int r1)), (I, L, ab_RR, n, nc, ns)) ∧ ((r1 ≤ v5 → ((v4 = 0 → (ab_E w (d + 1) mt_M_alike 83 [.ref mx, .long v1, .null, .int v3, .int v4, .int v5] [.long 1, .long v1] (I, L, ab_RR, n, nc, ns) res)) ∧ (¬ v4 = 0 → (∃ (r4 : Int64) (I5 : Nat → Nat → Int32) (L6 : Nat → Nat → Int64), ab_C w d mt_M_waysAt [.ref mx, .int v3] (I, L, ab_RR, n, nc, ns) (.inl (some (.long r4)), (I5, L6, ab_RR, n, nc, ns)) ∧ ab_E w (d + 1) mt_M_alike 83 [.ref mx, .long v1, .null, .int v3, .int v4, .int v5] [.long r4, .long v1] (I5, L6, ab_RR, n, nc, ns) res)))) ∧ (¬ r1 ≤ v5 → ((¬ v4 = 0 → (ab_E w (d + 1) mt_M_alike 55 [.ref mx, .long v1, .null, .int v3, .int v4, .int v5] [] (I, L, ab_RR, n, nc, ns) res)) ∧ (v4 = 0 → (∃ (r8 : Int32), ab_C w d mt_M_isSound [.ref mx, .int v5] (I, L, ab_RR, n, nc, ns) (.inl (some (.int r8)), (I, L, ab_RR, n, nc, ns)) ∧ ((r8 = 0 → (ab_E w (d + 1) mt_M_alike 59 [.ref mx, .long v1, .null, .int v3, .int v4, .int v5] [] (I, L, ab_RR, n, nc, ns) res)) ∧ (¬ r8 = 0 → (∃ (r10 : Int32), ab_C w d mt_M_priceOf [.ref mx, .int v5] (I, L, ab_RR, n, nc, ns) (.inl (some (.int r10)), (I, L, ab_RR, n, nc, ns)) ∧ ((¬ r10 = v3 → (ab_E w (d + 1) mt_M_alike 59 [.ref mx, .long v1, .null, .int v3, .int v4, .int v5] [] (I, L, ab_RR, n, nc, ns) res)) ∧ (r10 = v3 → (ab_E w (d + 1) mt_M_alike 55 [.ref mx, .long v1, .null, .int v3, .int v4, .int v5] [] (I, L, ab_RR, n, nc, ns) res)))))))))))) : ab_E w (d + 1) mt_M_alike 22 [.ref mx, .long v1, .null, .int v3, .int v4, .int v5] [] (I, L, ab_RR, n, nc, ns) res := by
  refine ab_iload (i := 5) d_M_alike_22 rfl ?_
  refine ab_aload_n (i := 0) d_M_alike_24 rfl rfl ?_
  obtain ⟨r1, hC, h⟩ := h
  refine ab_callV (me2 := mt_M_many) (b := mx) (as := []) (st := [.int v5]) (rv := (some (.int r1))) (M2 := (I, L, ab_RR, n, nc, ns)) d_M_alike_25 ce_M_many v_1635 v_1637 v_79 (by decide) rfl (Nat.le_of_ble_eq_true rfl) hC (Nat.le_refl _) (Nat.le_refl _) hc hs (fun j h9 => by cases h9) (fun _ _ => rfl) ?_
  show ab_E w (d + 1) mt_M_alike 28 [.ref mx, .long v1, .null, .int v3, .int v4, .int v5] [.int r1, .int v5] (I, L, ab_RR, n, nc, ns) res
  refine ab_icmp_ge (tgt := 68) d_M_alike_28 (by decide) (fun c2 => ?_) (fun c2 => ?_)
  · have h := h.1 c2
    refine ab_lload_n (i := 1) d_M_alike_68 rfl rfl ?_
    refine ab_iload (i := 4) d_M_alike_69 rfl ?_
    refine ab_if_eq (tgt := 82) d_M_alike_71 (by decide) (fun c3 => ?_) (fun c3 => ?_)
    · have h := h.1 c3
      refine ab_lconst (v := 1) d_M_alike_82 rfl ?_
      exact h
    · have h := h.2 c3
      refine ab_aload_n (i := 0) d_M_alike_74 rfl rfl ?_
      refine ab_iload_n (i := 3) d_M_alike_75 rfl rfl ?_
      obtain ⟨r4, I5, L6, hC, h⟩ := h
      refine ab_callV (me2 := mt_M_waysAt) (b := mx) (as := [.int v3]) (st := [.long v1]) (rv := (some (.long r4))) (M2 := (I5, L6, ab_RR, n, nc, ns)) d_M_alike_76 ce_M_waysAt v_1827 v_1829 v_116 (by decide) rfl (Nat.le_of_ble_eq_true rfl) hC (Nat.le_refl _) (Nat.le_refl _) hc hs (fun j h9 => by cases h9) (fun _ _ => rfl) ?_
      show ab_E w (d + 1) mt_M_alike 79 [.ref mx, .long v1, .null, .int v3, .int v4, .int v5] [.long r4, .long v1] (I5, L6, ab_RR, n, nc, ns) res
      refine ab_goto (tgt := 83) d_M_alike_79 (by decide) ?_
      exact h
  · have h := h.2 c2
    refine ab_iload (i := 4) d_M_alike_31 rfl ?_
    refine ab_if_ne (tgt := 55) d_M_alike_33 (by decide) (fun c7 => ?_) (fun c7 => ?_)
    · have h := h.1 c7
      exact h
    · have h := h.2 c7
      refine ab_aload_n (i := 0) d_M_alike_36 rfl rfl ?_
      refine ab_iload (i := 5) d_M_alike_37 rfl ?_
      obtain ⟨r8, hC, h⟩ := h
      refine ab_callV (me2 := mt_M_isSound) (b := mx) (as := [.int v5]) (st := []) (rv := (some (.int r8))) (M2 := (I, L, ab_RR, n, nc, ns)) d_M_alike_39 ce_M_isSound v_1679 v_1681 v_89 (by decide) rfl (Nat.le_of_ble_eq_true rfl) hC (Nat.le_refl _) (Nat.le_refl _) hc hs (fun j h9 => by cases h9) (fun _ _ => rfl) ?_
      show ab_E w (d + 1) mt_M_alike 42 [.ref mx, .long v1, .null, .int v3, .int v4, .int v5] [.int r8] (I, L, ab_RR, n, nc, ns) res
      refine ab_if_eq (tgt := 59) d_M_alike_42 (by decide) (fun c9 => ?_) (fun c9 => ?_)
      · have h := h.1 c9
        exact h
      · have h := h.2 c9
        refine ab_aload_n (i := 0) d_M_alike_45 rfl rfl ?_
        refine ab_iload (i := 5) d_M_alike_46 rfl ?_
        obtain ⟨r10, hC, h⟩ := h
        refine ab_callV (me2 := mt_M_priceOf) (b := mx) (as := [.int v5]) (st := []) (rv := (some (.int r10))) (M2 := (I, L, ab_RR, n, nc, ns)) d_M_alike_48 ce_M_priceOf v_1654 v_1656 v_83 (by decide) rfl (Nat.le_of_ble_eq_true rfl) hC (Nat.le_refl _) (Nat.le_refl _) hc hs (fun j h9 => by cases h9) (fun _ _ => rfl) ?_
        show ab_E w (d + 1) mt_M_alike 51 [.ref mx, .long v1, .null, .int v3, .int v4, .int v5] [.int r10] (I, L, ab_RR, n, nc, ns) res
        refine ab_iload_n (i := 3) d_M_alike_51 rfl rfl ?_
        refine ab_icmp_ne (tgt := 59) d_M_alike_52 (by decide) (fun c11 => ?_) (fun c11 => ?_)
        · have h := h.1 c11
          exact h
        · have h := h.2 c11
          exact h
theorem q_M_alike_55 {w : ab_Wd} {d n nc ns : Nat} {I : Nat → Nat → Int32} {L : Nat → Nat → Int64} {res : ab_Re} (v1 : Int64) (v3 : Int32) (v4 : Int32) (v5 : Int32) (hc : nc ≤ res.2.2.2.2.2.1) (hs : ns ≤ res.2.2.2.2.2.2)
    (h : ab_E w (d + 1) mt_M_alike 60 [.ref mx, .long v1, .null, .int v3, .int v4, .int v5] [.int 1] (I, L, ab_RR, n, nc, ns) res) : ab_E w (d + 1) mt_M_alike 55 [.ref mx, .long v1, .null, .int v3, .int v4, .int v5] [] (I, L, ab_RR, n, nc, ns) res := by
  refine ab_iconst (v := 1) d_M_alike_55 rfl ?_
  refine ab_goto (tgt := 60) d_M_alike_56 (by decide) ?_
  exact h
theorem q_M_alike_59 {w : ab_Wd} {d n nc ns : Nat} {I : Nat → Nat → Int32} {L : Nat → Nat → Int64} {res : ab_Re} (v1 : Int64) (v3 : Int32) (v4 : Int32) (v5 : Int32) (hc : nc ≤ res.2.2.2.2.2.1) (hs : ns ≤ res.2.2.2.2.2.2)
    (h : ab_E w (d + 1) mt_M_alike 60 [.ref mx, .long v1, .null, .int v3, .int v4, .int v5] [.int 0] (I, L, ab_RR, n, nc, ns) res) : ab_E w (d + 1) mt_M_alike 59 [.ref mx, .long v1, .null, .int v3, .int v4, .int v5] [] (I, L, ab_RR, n, nc, ns) res := by
  refine ab_iconst (v := 0) d_M_alike_59 rfl ?_
  exact h
theorem q_M_alike_60 {w : ab_Wd} {d n nc ns : Nat} {I : Nat → Nat → Int32} {L : Nat → Nat → Int64} {res : ab_Re} (v1 : Int64) (v3 : Int32) (v4 : Int32) (v5 : Int32) (s0 : Int32) (hc : nc ≤ res.2.2.2.2.2.1) (hs : ns ≤ res.2.2.2.2.2.2)
    (h : ab_E w (d + 1) mt_M_alike 22 [.ref mx, .long v1, .null, .int v3, .int s0, .int (v5 + 1)] [] (I, L, ab_RR, n, nc, ns) res) : ab_E w (d + 1) mt_M_alike 60 [.ref mx, .long v1, .null, .int v3, .int v4, .int v5] [.int s0] (I, L, ab_RR, n, nc, ns) res := by
  refine ab_istore (i := 4) d_M_alike_60 (by decide) (Or.inr rfl) ?_
  refine ab_iinc (i := 5) (v := (v5 + 1)) d_M_alike_62 rfl rfl (by decide) (Or.inr rfl) ?_
  refine ab_goto (tgt := 22) d_M_alike_65 (by decide) ?_
  exact h
theorem q_M_alike_83 {w : ab_Wd} {d n nc ns : Nat} {I : Nat → Nat → Int32} {L : Nat → Nat → Int64} {res : ab_Re} (v1 : Int64) (v3 : Int32) (v4 : Int32) (v5 : Int32) (s0 : Int64) (s1 : Int64) (hc : nc ≤ res.2.2.2.2.2.1) (hs : ns ≤ res.2.2.2.2.2.2)
    (h : ab_E w (d + 1) mt_M_alike 9 [.ref mx, .long (s0 * s1), .null, .int (v3 + 1), .null, .null] [] (I, L, ab_RR, n, nc, ns) res) : ab_E w (d + 1) mt_M_alike 83 [.ref mx, .long v1, .null, .int v3, .int v4, .int v5] [.long s1, .long s0] (I, L, ab_RR, n, nc, ns) res := by
  refine ab_lmul d_M_alike_83 ?_
  refine ab_lstore_n (i := 1) d_M_alike_84 rfl (by decide) (Or.inr rfl) ?_
  refine ab_iinc (i := 3) (v := (v3 + 1)) d_M_alike_85 rfl rfl (by decide) (Or.inr rfl) ?_
  refine ab_goto (tgt := 9) d_M_alike_88 (by decide) ?_
  refine ab_drop 4 ?_
  refine ab_drop 5 ?_
  exact h
theorem d_M_tellByte_0 : decode (ab_bc mt_M_tellByte) 0 = .ok (.aload_n 0, 1) := by decide +kernel
theorem d_M_tellByte_1 : decode (ab_bc mt_M_tellByte) 1 = .ok (.getfield 388, 3) := by decide +kernel
theorem d_M_tellByte_4 : decode (ab_bc mt_M_tellByte) 4 = .ok (.aload_n 0, 1) := by decide +kernel
theorem d_M_tellByte_5 : decode (ab_bc mt_M_tellByte) 5 = .ok (.getfield 391, 3) := by decide +kernel
theorem d_M_tellByte_8 : decode (ab_bc mt_M_tellByte) 8 = .ok (.if_icmp .ne 8, 3) := by decide +kernel
theorem d_M_tellByte_11 : decode (ab_bc mt_M_tellByte) 11 = .ok (.aload_n 0, 1) := by decide +kernel
theorem d_M_tellByte_12 : decode (ab_bc mt_M_tellByte) 12 = .ok (.iload_n 1, 1) := by decide +kernel
theorem d_M_tellByte_13 : decode (ab_bc mt_M_tellByte) 13 = .ok (.putfield 394, 3) := by decide +kernel
theorem d_M_tellByte_16 : decode (ab_bc mt_M_tellByte) 16 = .ok (.aload_n 0, 1) := by decide +kernel
theorem d_M_tellByte_17 : decode (ab_bc mt_M_tellByte) 17 = .ok (.dup, 1) := by decide +kernel
theorem d_M_tellByte_18 : decode (ab_bc mt_M_tellByte) 18 = .ok (.getfield 388, 3) := by decide +kernel
theorem d_M_tellByte_21 : decode (ab_bc mt_M_tellByte) 21 = .ok (.iconst 1, 1) := by decide +kernel
theorem d_M_tellByte_22 : decode (ab_bc mt_M_tellByte) 22 = .ok (.iadd, 1) := by decide +kernel
theorem d_M_tellByte_23 : decode (ab_bc mt_M_tellByte) 23 = .ok (.putfield 388, 3) := by decide +kernel
theorem d_M_tellByte_26 : decode (ab_bc mt_M_tellByte) 26 = .ok (.return_, 1) := by decide +kernel
-- CableKeeperModel.tellByte(I)V over mx
theorem q_M_tellByte_0 {w : ab_Wd} {d n nc ns : Nat} {I : Nat → Nat → Int32} {L : Nat → Nat → Int64} {res : ab_Re} (v1 : Int32) (hc : nc ≤ res.2.2.2.2.2.1) (hs : ns ≤ res.2.2.2.2.2.2)
    (h : ((¬ (I mx 38) = (I mx 37) → (ab_E w d mt_M_tellByte 16 [.ref mx, .int v1] [] (I, L, ab_RR, n, nc, ns) res)) ∧ ((I mx 38) = (I mx 37) → (ab_E w d mt_M_tellByte 16 [.ref mx, .int v1] [] ((ab_up I mx 39 v1), L, ab_RR, n, nc, ns) res)))) : ab_E w d mt_M_tellByte 0 [.ref mx, .int v1] [] (I, L, ab_RR, n, nc, ns) res := by
  refine ab_aload_n (i := 0) d_M_tellByte_0 rfl rfl ?_
  refine ab_getI (ci := 11) (k := 38) d_M_tellByte_1 v_1406 rfl (by decide) (by decide) rfl ?_
  refine ab_aload_n (i := 0) d_M_tellByte_4 rfl rfl ?_
  refine ab_getI (ci := 11) (k := 37) d_M_tellByte_5 v_1405 rfl (by decide) (by decide) rfl ?_
  refine ab_icmp_ne (tgt := 16) d_M_tellByte_8 (by decide) (fun c1 => ?_) (fun c1 => ?_)
  · have h := h.1 c1
    exact h
  · have h := h.2 c1
    refine ab_aload_n (i := 0) d_M_tellByte_11 rfl rfl ?_
    refine ab_iload_n (i := 1) d_M_tellByte_12 rfl rfl ?_
    refine ab_putI (ci := 11) (k := 39) d_M_tellByte_13 v_1407 rfl (by decide) (by decide) rfl (Or.inl rfl) rfl rfl ?_
    exact h
theorem q_M_tellByte_16 {w : ab_Wd} {d n nc ns : Nat} {I : Nat → Nat → Int32} {L : Nat → Nat → Int64} {res : ab_Re} (v1 : Int32) (hc : nc ≤ res.2.2.2.2.2.1) (hs : ns ≤ res.2.2.2.2.2.2)
    (h : res = (.inl none, ((ab_up I mx 38 ((I mx 38) + 1)), L, ab_RR, n, nc, ns))) : ab_E w d mt_M_tellByte 16 [.ref mx, .int v1] [] (I, L, ab_RR, n, nc, ns) res := by
  refine ab_aload_n (i := 0) d_M_tellByte_16 rfl rfl ?_
  refine ab_dupr d_M_tellByte_17 ?_
  refine ab_getI (ci := 11) (k := 38) d_M_tellByte_18 v_1406 rfl (by decide) (by decide) rfl ?_
  refine ab_iconst (v := 1) d_M_tellByte_21 rfl ?_
  refine ab_iadd d_M_tellByte_22 ?_
  refine ab_putI (ci := 11) (k := 38) d_M_tellByte_23 v_1406 rfl (by decide) (by decide) rfl (Or.inl rfl) rfl rfl ?_
  exact ab_vret d_M_tellByte_26 rfl h
theorem d_M_tellNumber_0 : decode (ab_bc mt_M_tellNumber) 0 = .ok (.iload_n 1, 1) := by decide +kernel
theorem d_M_tellNumber_1 : decode (ab_bc mt_M_tellNumber) 1 = .ok (.bipush 9, 2) := by decide +kernel
theorem d_M_tellNumber_3 : decode (ab_bc mt_M_tellNumber) 3 = .ok (.if_icmp .le 11, 3) := by decide +kernel
theorem d_M_tellNumber_6 : decode (ab_bc mt_M_tellNumber) 6 = .ok (.aload_n 0, 1) := by decide +kernel
theorem d_M_tellNumber_7 : decode (ab_bc mt_M_tellNumber) 7 = .ok (.iload_n 1, 1) := by decide +kernel
theorem d_M_tellNumber_8 : decode (ab_bc mt_M_tellNumber) 8 = .ok (.bipush 10, 2) := by decide +kernel
theorem d_M_tellNumber_10 : decode (ab_bc mt_M_tellNumber) 10 = .ok (.idiv, 1) := by decide +kernel
theorem d_M_tellNumber_11 : decode (ab_bc mt_M_tellNumber) 11 = .ok (.invokevirtual 400, 3) := by decide +kernel
theorem d_M_tellNumber_14 : decode (ab_bc mt_M_tellNumber) 14 = .ok (.aload_n 0, 1) := by decide +kernel
theorem d_M_tellNumber_15 : decode (ab_bc mt_M_tellNumber) 15 = .ok (.bipush 48, 2) := by decide +kernel
theorem d_M_tellNumber_17 : decode (ab_bc mt_M_tellNumber) 17 = .ok (.iload_n 1, 1) := by decide +kernel
theorem d_M_tellNumber_18 : decode (ab_bc mt_M_tellNumber) 18 = .ok (.bipush 10, 2) := by decide +kernel
theorem d_M_tellNumber_20 : decode (ab_bc mt_M_tellNumber) 20 = .ok (.irem, 1) := by decide +kernel
theorem d_M_tellNumber_21 : decode (ab_bc mt_M_tellNumber) 21 = .ok (.iadd, 1) := by decide +kernel
theorem d_M_tellNumber_22 : decode (ab_bc mt_M_tellNumber) 22 = .ok (.invokevirtual 397, 3) := by decide +kernel
theorem d_M_tellNumber_25 : decode (ab_bc mt_M_tellNumber) 25 = .ok (.return_, 1) := by decide +kernel
-- CableKeeperModel.tellNumber(I)V over mx
theorem q_M_tellNumber_0 {w : ab_Wd} {d n nc ns : Nat} {I : Nat → Nat → Int32} {L : Nat → Nat → Int64} {res : ab_Re} (v1 : Int32) (hc : nc ≤ res.2.2.2.2.2.1) (hs : ns ≤ res.2.2.2.2.2.2)
    (h : ((v1 ≤ 9 → (ab_E w (d + 1) mt_M_tellNumber 14 [.ref mx, .int v1] [] (I, L, ab_RR, n, nc, ns) res)) ∧ (¬ v1 ≤ 9 → (∃ (I3 : Nat → Nat → Int32), ab_C w d mt_M_tellNumber [.ref mx, .int (v1 / 10)] (I, L, ab_RR, n, nc, ns) (.inl none, (I3, L, ab_RR, n, nc, ns)) ∧ ab_E w (d + 1) mt_M_tellNumber 14 [.ref mx, .int v1] [] (I3, L, ab_RR, n, nc, ns) res)))) : ab_E w (d + 1) mt_M_tellNumber 0 [.ref mx, .int v1] [] (I, L, ab_RR, n, nc, ns) res := by
  refine ab_iload_n (i := 1) d_M_tellNumber_0 rfl rfl ?_
  refine ab_bipush (v := 9) d_M_tellNumber_1 rfl ?_
  refine ab_icmp_le (tgt := 14) d_M_tellNumber_3 (by decide) (fun c1 => ?_) (fun c1 => ?_)
  · have h := h.1 c1
    exact h
  · have h := h.2 c1
    refine ab_aload_n (i := 0) d_M_tellNumber_6 rfl rfl ?_
    refine ab_iload_n (i := 1) d_M_tellNumber_7 rfl rfl ?_
    refine ab_bipush (v := 10) d_M_tellNumber_8 rfl ?_
    refine ab_idiv d_M_tellNumber_10 (by decide) ?_
    obtain ⟨I3, hC, h⟩ := h
    refine ab_callV (me2 := mt_M_tellNumber) (b := mx) (as := [.int (v1 / 10)]) (st := []) (rv := none) (M2 := (I3, L, ab_RR, n, nc, ns)) d_M_tellNumber_11 ce_M_tellNumber v_1857 v_1859 v_122 (by decide) rfl (Nat.le_of_ble_eq_true rfl) hC (Nat.le_refl _) (Nat.le_refl _) hc hs (fun j h9 => by cases h9) (fun _ _ => rfl) ?_
    show ab_E w (d + 1) mt_M_tellNumber 14 [.ref mx, .int v1] [] (I3, L, ab_RR, n, nc, ns) res
    exact h
theorem q_M_tellNumber_14 {w : ab_Wd} {d n nc ns : Nat} {I : Nat → Nat → Int32} {L : Nat → Nat → Int64} {res : ab_Re} (v1 : Int32) (hc : nc ≤ res.2.2.2.2.2.1) (hs : ns ≤ res.2.2.2.2.2.2)
    (h : ∃ (I2 : Nat → Nat → Int32), ab_C w d mt_M_tellByte [.ref mx, .int (48 + (v1 - v1 / 10 * 10))] (I, L, ab_RR, n, nc, ns) (.inl none, (I2, L, ab_RR, n, nc, ns)) ∧ res = (.inl none, (I2, L, ab_RR, n, nc, ns))) : ab_E w (d + 1) mt_M_tellNumber 14 [.ref mx, .int v1] [] (I, L, ab_RR, n, nc, ns) res := by
  refine ab_aload_n (i := 0) d_M_tellNumber_14 rfl rfl ?_
  refine ab_bipush (v := 48) d_M_tellNumber_15 rfl ?_
  refine ab_iload_n (i := 1) d_M_tellNumber_17 rfl rfl ?_
  refine ab_bipush (v := 10) d_M_tellNumber_18 rfl ?_
  refine ab_irem d_M_tellNumber_20 (by decide) ?_
  refine ab_iadd d_M_tellNumber_21 ?_
  obtain ⟨I2, hC, h⟩ := h
  refine ab_callV (me2 := mt_M_tellByte) (b := mx) (as := [.int (48 + (v1 - v1 / 10 * 10))]) (st := []) (rv := none) (M2 := (I2, L, ab_RR, n, nc, ns)) d_M_tellNumber_22 ce_M_tellByte v_1853 v_1855 v_121 (by decide) rfl (Nat.le_of_ble_eq_true rfl) hC (Nat.le_refl _) (Nat.le_refl _) hc hs (fun j h9 => by cases h9) (fun _ _ => rfl) ?_
  show ab_E w (d + 1) mt_M_tellNumber 25 [.ref mx, .int v1] [] (I2, L, ab_RR, n, nc, ns) res
  exact ab_vret d_M_tellNumber_25 rfl h
theorem d_M_tellAll_0 : decode (ab_bc mt_M_tellAll) 0 = .ok (.aload_n 0, 1) := by decide +kernel
theorem d_M_tellAll_1 : decode (ab_bc mt_M_tellAll) 1 = .ok (.iconst 0, 1) := by decide +kernel
theorem d_M_tellAll_2 : decode (ab_bc mt_M_tellAll) 2 = .ok (.putfield 388, 3) := by decide +kernel
theorem d_M_tellAll_5 : decode (ab_bc mt_M_tellAll) 5 = .ok (.aload_n 0, 1) := by decide +kernel
theorem d_M_tellAll_6 : decode (ab_bc mt_M_tellAll) 6 = .ok (.ldc_w 403, 3) := by decide +kernel
theorem d_M_tellAll_9 : decode (ab_bc mt_M_tellAll) 9 = .ok (.invokevirtual 405, 3) := by decide +kernel
theorem d_M_tellAll_12 : decode (ab_bc mt_M_tellAll) 12 = .ok (.aload_n 0, 1) := by decide +kernel
theorem d_M_tellAll_13 : decode (ab_bc mt_M_tellAll) 13 = .ok (.aload_n 0, 1) := by decide +kernel
theorem d_M_tellAll_14 : decode (ab_bc mt_M_tellAll) 14 = .ok (.getfield 21, 3) := by decide +kernel
theorem d_M_tellAll_17 : decode (ab_bc mt_M_tellAll) 17 = .ok (.invokevirtual 400, 3) := by decide +kernel
theorem d_M_tellAll_20 : decode (ab_bc mt_M_tellAll) 20 = .ok (.aload_n 0, 1) := by decide +kernel
theorem d_M_tellAll_21 : decode (ab_bc mt_M_tellAll) 21 = .ok (.bipush 59, 2) := by decide +kernel
theorem d_M_tellAll_23 : decode (ab_bc mt_M_tellAll) 23 = .ok (.invokevirtual 397, 3) := by decide +kernel
theorem d_M_tellAll_26 : decode (ab_bc mt_M_tellAll) 26 = .ok (.iconst 0, 1) := by decide +kernel
theorem d_M_tellAll_27 : decode (ab_bc mt_M_tellAll) 27 = .ok (.istore_n 1, 1) := by decide +kernel
theorem d_M_tellAll_28 : decode (ab_bc mt_M_tellAll) 28 = .ok (.iload_n 1, 1) := by decide +kernel
theorem d_M_tellAll_29 : decode (ab_bc mt_M_tellAll) 29 = .ok (.aload_n 0, 1) := by decide +kernel
theorem d_M_tellAll_30 : decode (ab_bc mt_M_tellAll) 30 = .ok (.invokevirtual 234, 3) := by decide +kernel
theorem d_M_tellAll_33 : decode (ab_bc mt_M_tellAll) 33 = .ok (.if_icmp .ge 87, 3) := by decide +kernel
theorem d_M_tellAll_36 : decode (ab_bc mt_M_tellAll) 36 = .ok (.aload_n 0, 1) := by decide +kernel
theorem d_M_tellAll_37 : decode (ab_bc mt_M_tellAll) 37 = .ok (.ldc_w 409, 3) := by decide +kernel
theorem d_M_tellAll_40 : decode (ab_bc mt_M_tellAll) 40 = .ok (.invokevirtual 405, 3) := by decide +kernel
theorem d_M_tellAll_43 : decode (ab_bc mt_M_tellAll) 43 = .ok (.aload_n 0, 1) := by decide +kernel
theorem d_M_tellAll_44 : decode (ab_bc mt_M_tellAll) 44 = .ok (.aload_n 0, 1) := by decide +kernel
theorem d_M_tellAll_45 : decode (ab_bc mt_M_tellAll) 45 = .ok (.getfield 24, 3) := by decide +kernel
theorem d_M_tellAll_48 : decode (ab_bc mt_M_tellAll) 48 = .ok (.iconst 3, 1) := by decide +kernel
theorem d_M_tellAll_49 : decode (ab_bc mt_M_tellAll) 49 = .ok (.iload_n 1, 1) := by decide +kernel
theorem d_M_tellAll_50 : decode (ab_bc mt_M_tellAll) 50 = .ok (.iadd, 1) := by decide +kernel
theorem d_M_tellAll_51 : decode (ab_bc mt_M_tellAll) 51 = .ok (.iaload, 1) := by decide +kernel
theorem d_M_tellAll_52 : decode (ab_bc mt_M_tellAll) 52 = .ok (.invokevirtual 400, 3) := by decide +kernel
theorem d_M_tellAll_55 : decode (ab_bc mt_M_tellAll) 55 = .ok (.aload_n 0, 1) := by decide +kernel
theorem d_M_tellAll_56 : decode (ab_bc mt_M_tellAll) 56 = .ok (.bipush 32, 2) := by decide +kernel
theorem d_M_tellAll_58 : decode (ab_bc mt_M_tellAll) 58 = .ok (.invokevirtual 397, 3) := by decide +kernel
theorem d_M_tellAll_61 : decode (ab_bc mt_M_tellAll) 61 = .ok (.aload_n 0, 1) := by decide +kernel
theorem d_M_tellAll_62 : decode (ab_bc mt_M_tellAll) 62 = .ok (.aload_n 0, 1) := by decide +kernel
theorem d_M_tellAll_63 : decode (ab_bc mt_M_tellAll) 63 = .ok (.getfield 24, 3) := by decide +kernel
theorem d_M_tellAll_66 : decode (ab_bc mt_M_tellAll) 66 = .ok (.bipush 27, 2) := by decide +kernel
theorem d_M_tellAll_68 : decode (ab_bc mt_M_tellAll) 68 = .ok (.iload_n 1, 1) := by decide +kernel
theorem d_M_tellAll_69 : decode (ab_bc mt_M_tellAll) 69 = .ok (.iadd, 1) := by decide +kernel
theorem d_M_tellAll_70 : decode (ab_bc mt_M_tellAll) 70 = .ok (.iaload, 1) := by decide +kernel
theorem d_M_tellAll_71 : decode (ab_bc mt_M_tellAll) 71 = .ok (.invokevirtual 400, 3) := by decide +kernel
theorem d_M_tellAll_74 : decode (ab_bc mt_M_tellAll) 74 = .ok (.aload_n 0, 1) := by decide +kernel
theorem d_M_tellAll_75 : decode (ab_bc mt_M_tellAll) 75 = .ok (.bipush 32, 2) := by decide +kernel
theorem d_M_tellAll_77 : decode (ab_bc mt_M_tellAll) 77 = .ok (.invokevirtual 397, 3) := by decide +kernel
theorem d_M_tellAll_80 : decode (ab_bc mt_M_tellAll) 80 = .ok (.aload_n 0, 1) := by decide +kernel
theorem d_M_tellAll_81 : decode (ab_bc mt_M_tellAll) 81 = .ok (.aload_n 0, 1) := by decide +kernel
theorem d_M_tellAll_82 : decode (ab_bc mt_M_tellAll) 82 = .ok (.iload_n 1, 1) := by decide +kernel
theorem d_M_tellAll_83 : decode (ab_bc mt_M_tellAll) 83 = .ok (.invokevirtual 222, 3) := by decide +kernel
theorem d_M_tellAll_86 : decode (ab_bc mt_M_tellAll) 86 = .ok (.invokevirtual 400, 3) := by decide +kernel
theorem d_M_tellAll_89 : decode (ab_bc mt_M_tellAll) 89 = .ok (.aload_n 0, 1) := by decide +kernel
theorem d_M_tellAll_90 : decode (ab_bc mt_M_tellAll) 90 = .ok (.bipush 32, 2) := by decide +kernel
theorem d_M_tellAll_92 : decode (ab_bc mt_M_tellAll) 92 = .ok (.invokevirtual 397, 3) := by decide +kernel
theorem d_M_tellAll_95 : decode (ab_bc mt_M_tellAll) 95 = .ok (.aload_n 0, 1) := by decide +kernel
theorem d_M_tellAll_96 : decode (ab_bc mt_M_tellAll) 96 = .ok (.aload_n 0, 1) := by decide +kernel
theorem d_M_tellAll_97 : decode (ab_bc mt_M_tellAll) 97 = .ok (.getfield 24, 3) := by decide +kernel
theorem d_M_tellAll_100 : decode (ab_bc mt_M_tellAll) 100 = .ok (.bipush 75, 2) := by decide +kernel
theorem d_M_tellAll_102 : decode (ab_bc mt_M_tellAll) 102 = .ok (.iload_n 1, 1) := by decide +kernel
theorem d_M_tellAll_103 : decode (ab_bc mt_M_tellAll) 103 = .ok (.iadd, 1) := by decide +kernel
theorem d_M_tellAll_104 : decode (ab_bc mt_M_tellAll) 104 = .ok (.iaload, 1) := by decide +kernel
theorem d_M_tellAll_105 : decode (ab_bc mt_M_tellAll) 105 = .ok (.invokevirtual 400, 3) := by decide +kernel
theorem d_M_tellAll_108 : decode (ab_bc mt_M_tellAll) 108 = .ok (.aload_n 0, 1) := by decide +kernel
theorem d_M_tellAll_109 : decode (ab_bc mt_M_tellAll) 109 = .ok (.bipush 59, 2) := by decide +kernel
theorem d_M_tellAll_111 : decode (ab_bc mt_M_tellAll) 111 = .ok (.invokevirtual 397, 3) := by decide +kernel
theorem d_M_tellAll_114 : decode (ab_bc mt_M_tellAll) 114 = .ok (.iinc 1 1, 3) := by decide +kernel
theorem d_M_tellAll_117 : decode (ab_bc mt_M_tellAll) 117 = .ok (.goto (-89), 3) := by decide +kernel
theorem d_M_tellAll_120 : decode (ab_bc mt_M_tellAll) 120 = .ok (.iconst 0, 1) := by decide +kernel
theorem d_M_tellAll_121 : decode (ab_bc mt_M_tellAll) 121 = .ok (.istore_n 1, 1) := by decide +kernel
theorem d_M_tellAll_122 : decode (ab_bc mt_M_tellAll) 122 = .ok (.iload_n 1, 1) := by decide +kernel
theorem d_M_tellAll_123 : decode (ab_bc mt_M_tellAll) 123 = .ok (.aload_n 0, 1) := by decide +kernel
theorem d_M_tellAll_124 : decode (ab_bc mt_M_tellAll) 124 = .ok (.invokevirtual 234, 3) := by decide +kernel
theorem d_M_tellAll_127 : decode (ab_bc mt_M_tellAll) 127 = .ok (.if_icmp .ge 38, 3) := by decide +kernel
theorem d_M_tellAll_130 : decode (ab_bc mt_M_tellAll) 130 = .ok (.aload_n 0, 1) := by decide +kernel
theorem d_M_tellAll_131 : decode (ab_bc mt_M_tellAll) 131 = .ok (.iload_n 1, 1) := by decide +kernel
theorem d_M_tellAll_132 : decode (ab_bc mt_M_tellAll) 132 = .ok (.invokevirtual 262, 3) := by decide +kernel
theorem d_M_tellAll_135 : decode (ab_bc mt_M_tellAll) 135 = .ok (.ifCond .eq 6, 3) := by decide +kernel
theorem d_M_tellAll_138 : decode (ab_bc mt_M_tellAll) 138 = .ok (.goto 21, 3) := by decide +kernel
theorem d_M_tellAll_141 : decode (ab_bc mt_M_tellAll) 141 = .ok (.aload_n 0, 1) := by decide +kernel
theorem d_M_tellAll_142 : decode (ab_bc mt_M_tellAll) 142 = .ok (.ldc_w 411, 3) := by decide +kernel
theorem d_M_tellAll_145 : decode (ab_bc mt_M_tellAll) 145 = .ok (.invokevirtual 405, 3) := by decide +kernel
theorem d_M_tellAll_148 : decode (ab_bc mt_M_tellAll) 148 = .ok (.aload_n 0, 1) := by decide +kernel
theorem d_M_tellAll_149 : decode (ab_bc mt_M_tellAll) 149 = .ok (.iload_n 1, 1) := by decide +kernel
theorem d_M_tellAll_150 : decode (ab_bc mt_M_tellAll) 150 = .ok (.invokevirtual 400, 3) := by decide +kernel
theorem d_M_tellAll_153 : decode (ab_bc mt_M_tellAll) 153 = .ok (.aload_n 0, 1) := by decide +kernel
theorem d_M_tellAll_154 : decode (ab_bc mt_M_tellAll) 154 = .ok (.bipush 59, 2) := by decide +kernel
theorem d_M_tellAll_156 : decode (ab_bc mt_M_tellAll) 156 = .ok (.invokevirtual 397, 3) := by decide +kernel
theorem d_M_tellAll_159 : decode (ab_bc mt_M_tellAll) 159 = .ok (.iinc 1 1, 3) := by decide +kernel
theorem d_M_tellAll_162 : decode (ab_bc mt_M_tellAll) 162 = .ok (.goto (-40), 3) := by decide +kernel
theorem d_M_tellAll_165 : decode (ab_bc mt_M_tellAll) 165 = .ok (.return_, 1) := by decide +kernel
-- CableKeeperModel.tellAll()V over mx
theorem q_M_tellAll_0 {w : ab_Wd} {d n nc ns : Nat} {I : Nat → Nat → Int32} {L : Nat → Nat → Int64} {res : ab_Re}  (hc : nc ≤ res.2.2.2.2.2.1) (hs : ns ≤ res.2.2.2.2.2.2)
    (h : ∃ (I2 : Nat → Nat → Int32), ab_C w d mt_M_tellWord [.ref mx, .ref 224] ((ab_up I mx 38 0), L, ab_RR, n, nc, ns) (.inl none, (I2, L, ab_RR, n, nc, ns)) ∧ ∃ (I4 : Nat → Nat → Int32), ab_C w d mt_M_tellNumber [.ref mx, .int (I2 mx 2)] (I2, L, ab_RR, n, nc, ns) (.inl none, (I4, L, ab_RR, n, nc, ns)) ∧ ∃ (I6 : Nat → Nat → Int32), ab_C w d mt_M_tellByte [.ref mx, .int 59] (I4, L, ab_RR, n, nc, ns) (.inl none, (I6, L, ab_RR, n, nc, ns)) ∧ ab_E w (d + 1) mt_M_tellAll 28 [.ref mx, .int 0] [] (I6, L, ab_RR, n, nc, ns) res) : ab_E w (d + 1) mt_M_tellAll 0 [.ref mx, .null] [] (I, L, ab_RR, n, nc, ns) res := by
  refine ab_aload_n (i := 0) d_M_tellAll_0 rfl rfl ?_
  refine ab_iconst (v := 0) d_M_tellAll_1 rfl ?_
  refine ab_putI (ci := 11) (k := 38) d_M_tellAll_2 v_1406 rfl (by decide) (by decide) rfl (Or.inl rfl) rfl rfl ?_
  refine ab_aload_n (i := 0) d_M_tellAll_5 rfl rfl ?_
  refine ab_ldcSW (j := 3) (tx := "sites ") d_M_tellAll_6 (by decide) (by decide +kernel) ?_
  obtain ⟨I2, hC, h⟩ := h
  refine ab_callV (me2 := mt_M_tellWord) (b := mx) (as := [.ref 224]) (st := []) (rv := none) (M2 := (I2, L, ab_RR, n, nc, ns)) d_M_tellAll_9 ce_M_tellWord v_1849 v_1851 v_120 (by decide) rfl (Nat.le_of_ble_eq_true rfl) hC (Nat.le_refl _) (Nat.le_refl _) hc hs (fun j h9 => by cases h9) (fun _ _ => rfl) ?_
  show ab_E w (d + 1) mt_M_tellAll 12 [.ref mx, .null] [] (I2, L, ab_RR, n, nc, ns) res
  refine ab_aload_n (i := 0) d_M_tellAll_12 rfl rfl ?_
  refine ab_aload_n (i := 0) d_M_tellAll_13 rfl rfl ?_
  refine ab_getI (ci := 11) (k := 2) d_M_tellAll_14 v_1370 rfl (by decide) (by decide) rfl ?_
  obtain ⟨I4, hC, h⟩ := h
  refine ab_callV (me2 := mt_M_tellNumber) (b := mx) (as := [.int (I2 mx 2)]) (st := []) (rv := none) (M2 := (I4, L, ab_RR, n, nc, ns)) d_M_tellAll_17 ce_M_tellNumber v_1857 v_1859 v_122 (by decide) rfl (Nat.le_of_ble_eq_true rfl) hC (Nat.le_refl _) (Nat.le_refl _) hc hs (fun j h9 => by cases h9) (fun _ _ => rfl) ?_
  show ab_E w (d + 1) mt_M_tellAll 20 [.ref mx, .null] [] (I4, L, ab_RR, n, nc, ns) res
  refine ab_aload_n (i := 0) d_M_tellAll_20 rfl rfl ?_
  refine ab_bipush (v := 59) d_M_tellAll_21 rfl ?_
  obtain ⟨I6, hC, h⟩ := h
  refine ab_callV (me2 := mt_M_tellByte) (b := mx) (as := [.int 59]) (st := []) (rv := none) (M2 := (I6, L, ab_RR, n, nc, ns)) d_M_tellAll_23 ce_M_tellByte v_1853 v_1855 v_121 (by decide) rfl (Nat.le_of_ble_eq_true rfl) hC (Nat.le_refl _) (Nat.le_refl _) hc hs (fun j h9 => by cases h9) (fun _ _ => rfl) ?_
  show ab_E w (d + 1) mt_M_tellAll 26 [.ref mx, .null] [] (I6, L, ab_RR, n, nc, ns) res
  refine ab_iconst (v := 0) d_M_tellAll_26 rfl ?_
  refine ab_istore_n (i := 1) d_M_tellAll_27 rfl (by decide) (Or.inr rfl) ?_
  exact h
theorem q_M_tellAll_28 {w : ab_Wd} {d n nc ns : Nat} {I : Nat → Nat → Int32} {L : Nat → Nat → Int64} {res : ab_Re} (v1 : Int32) (hc : nc ≤ res.2.2.2.2.2.1) (hs : ns ≤ res.2.2.2.2.2.2)
    (h : ∃ (r1 : Int32), ab_C w d mt_M_many [.ref mx] (I, L, ab_RR, n, nc, ns) (.inl (some (.int r1)), (I, L, ab_RR, n, nc, ns)) ∧ ((r1 ≤ v1 → (ab_E w (d + 1) mt_M_tellAll 122 [.ref mx, .int 0] [] (I, L, ab_RR, n, nc, ns) res)) ∧ (¬ r1 ≤ v1 → (∃ (I4 : Nat → Nat → Int32), ab_C w d mt_M_tellWord [.ref mx, .ref 288] (I, L, ab_RR, n, nc, ns) (.inl none, (I4, L, ab_RR, n, nc, ns)) ∧ (vp_in (3 + v1) 399) ∧ ∃ (I7 : Nat → Nat → Int32), ab_C w d mt_M_tellNumber [.ref mx, .int (I4 mx_now (3 + v1).toNatClampNeg)] (I4, L, ab_RR, n, nc, ns) (.inl none, (I7, L, ab_RR, n, nc, ns)) ∧ ∃ (I9 : Nat → Nat → Int32), ab_C w d mt_M_tellByte [.ref mx, .int 32] (I7, L, ab_RR, n, nc, ns) (.inl none, (I9, L, ab_RR, n, nc, ns)) ∧ (vp_in (27 + v1) 399) ∧ ∃ (I12 : Nat → Nat → Int32), ab_C w d mt_M_tellNumber [.ref mx, .int (I9 mx_now (27 + v1).toNatClampNeg)] (I9, L, ab_RR, n, nc, ns) (.inl none, (I12, L, ab_RR, n, nc, ns)) ∧ ∃ (I14 : Nat → Nat → Int32), ab_C w d mt_M_tellByte [.ref mx, .int 32] (I12, L, ab_RR, n, nc, ns) (.inl none, (I14, L, ab_RR, n, nc, ns)) ∧ ∃ (r15 : Int32), ab_C w d mt_M_priceOf [.ref mx, .int v1] (I14, L, ab_RR, n, nc, ns) (.inl (some (.int r15)), (I14, L, ab_RR, n, nc, ns)) ∧ ∃ (I17 : Nat → Nat → Int32), ab_C w d mt_M_tellNumber [.ref mx, .int r15] (I14, L, ab_RR, n, nc, ns) (.inl none, (I17, L, ab_RR, n, nc, ns)) ∧ ∃ (I19 : Nat → Nat → Int32), ab_C w d mt_M_tellByte [.ref mx, .int 32] (I17, L, ab_RR, n, nc, ns) (.inl none, (I19, L, ab_RR, n, nc, ns)) ∧ (vp_in (75 + v1) 399) ∧ ∃ (I22 : Nat → Nat → Int32), ab_C w d mt_M_tellNumber [.ref mx, .int (I19 mx_now (75 + v1).toNatClampNeg)] (I19, L, ab_RR, n, nc, ns) (.inl none, (I22, L, ab_RR, n, nc, ns)) ∧ ∃ (I24 : Nat → Nat → Int32), ab_C w d mt_M_tellByte [.ref mx, .int 59] (I22, L, ab_RR, n, nc, ns) (.inl none, (I24, L, ab_RR, n, nc, ns)) ∧ ab_E w (d + 1) mt_M_tellAll 28 [.ref mx, .int (v1 + 1)] [] (I24, L, ab_RR, n, nc, ns) res)))) : ab_E w (d + 1) mt_M_tellAll 28 [.ref mx, .int v1] [] (I, L, ab_RR, n, nc, ns) res := by
  refine ab_iload_n (i := 1) d_M_tellAll_28 rfl rfl ?_
  refine ab_aload_n (i := 0) d_M_tellAll_29 rfl rfl ?_
  obtain ⟨r1, hC, h⟩ := h
  refine ab_callV (me2 := mt_M_many) (b := mx) (as := []) (st := [.int v1]) (rv := (some (.int r1))) (M2 := (I, L, ab_RR, n, nc, ns)) d_M_tellAll_30 ce_M_many v_1635 v_1637 v_79 (by decide) rfl (Nat.le_of_ble_eq_true rfl) hC (Nat.le_refl _) (Nat.le_refl _) hc hs (fun j h9 => by cases h9) (fun _ _ => rfl) ?_
  show ab_E w (d + 1) mt_M_tellAll 33 [.ref mx, .int v1] [.int r1, .int v1] (I, L, ab_RR, n, nc, ns) res
  refine ab_icmp_ge (tgt := 120) d_M_tellAll_33 (by decide) (fun c2 => ?_) (fun c2 => ?_)
  · have h := h.1 c2
    refine ab_iconst (v := 0) d_M_tellAll_120 rfl ?_
    refine ab_istore_n (i := 1) d_M_tellAll_121 rfl (by decide) (Or.inr rfl) ?_
    exact h
  · have h := h.2 c2
    refine ab_aload_n (i := 0) d_M_tellAll_36 rfl rfl ?_
    refine ab_ldcSW (j := 4) (tx := "cable ") d_M_tellAll_37 (by decide) (by decide +kernel) ?_
    obtain ⟨I4, hC, h⟩ := h
    refine ab_callV (me2 := mt_M_tellWord) (b := mx) (as := [.ref 288]) (st := []) (rv := none) (M2 := (I4, L, ab_RR, n, nc, ns)) d_M_tellAll_40 ce_M_tellWord v_1849 v_1851 v_120 (by decide) rfl (Nat.le_of_ble_eq_true rfl) hC (Nat.le_refl _) (Nat.le_refl _) hc hs (fun j h9 => by cases h9) (fun _ _ => rfl) ?_
    show ab_E w (d + 1) mt_M_tellAll 43 [.ref mx, .int v1] [] (I4, L, ab_RR, n, nc, ns) res
    refine ab_aload_n (i := 0) d_M_tellAll_43 rfl rfl ?_
    refine ab_aload_n (i := 0) d_M_tellAll_44 rfl rfl ?_
    refine ab_getR (ci := 11) (k := 4) (j := mx_now) d_M_tellAll_45 v_1372 rfl (by decide) (by decide) rfl r_mx_4 ?_
    refine ab_iconst (v := 3) d_M_tellAll_48 rfl ?_
    refine ab_iload_n (i := 1) d_M_tellAll_49 rfl rfl ?_
    refine ab_iadd d_M_tellAll_50 ?_
    have g5 := h.1; have h := h.2
    refine ab_iald d_M_tellAll_51 rfl rfl g5 ?_
    obtain ⟨I7, hC, h⟩ := h
    refine ab_callV (me2 := mt_M_tellNumber) (b := mx) (as := [.int (I4 mx_now (3 + v1).toNatClampNeg)]) (st := []) (rv := none) (M2 := (I7, L, ab_RR, n, nc, ns)) d_M_tellAll_52 ce_M_tellNumber v_1857 v_1859 v_122 (by decide) rfl (Nat.le_of_ble_eq_true rfl) hC (Nat.le_refl _) (Nat.le_refl _) hc hs (fun j h9 => by cases h9) (fun _ _ => rfl) ?_
    show ab_E w (d + 1) mt_M_tellAll 55 [.ref mx, .int v1] [] (I7, L, ab_RR, n, nc, ns) res
    refine ab_aload_n (i := 0) d_M_tellAll_55 rfl rfl ?_
    refine ab_bipush (v := 32) d_M_tellAll_56 rfl ?_
    obtain ⟨I9, hC, h⟩ := h
    refine ab_callV (me2 := mt_M_tellByte) (b := mx) (as := [.int 32]) (st := []) (rv := none) (M2 := (I9, L, ab_RR, n, nc, ns)) d_M_tellAll_58 ce_M_tellByte v_1853 v_1855 v_121 (by decide) rfl (Nat.le_of_ble_eq_true rfl) hC (Nat.le_refl _) (Nat.le_refl _) hc hs (fun j h9 => by cases h9) (fun _ _ => rfl) ?_
    show ab_E w (d + 1) mt_M_tellAll 61 [.ref mx, .int v1] [] (I9, L, ab_RR, n, nc, ns) res
    refine ab_aload_n (i := 0) d_M_tellAll_61 rfl rfl ?_
    refine ab_aload_n (i := 0) d_M_tellAll_62 rfl rfl ?_
    refine ab_getR (ci := 11) (k := 4) (j := mx_now) d_M_tellAll_63 v_1372 rfl (by decide) (by decide) rfl r_mx_4 ?_
    refine ab_bipush (v := 27) d_M_tellAll_66 rfl ?_
    refine ab_iload_n (i := 1) d_M_tellAll_68 rfl rfl ?_
    refine ab_iadd d_M_tellAll_69 ?_
    have g10 := h.1; have h := h.2
    refine ab_iald d_M_tellAll_70 rfl rfl g10 ?_
    obtain ⟨I12, hC, h⟩ := h
    refine ab_callV (me2 := mt_M_tellNumber) (b := mx) (as := [.int (I9 mx_now (27 + v1).toNatClampNeg)]) (st := []) (rv := none) (M2 := (I12, L, ab_RR, n, nc, ns)) d_M_tellAll_71 ce_M_tellNumber v_1857 v_1859 v_122 (by decide) rfl (Nat.le_of_ble_eq_true rfl) hC (Nat.le_refl _) (Nat.le_refl _) hc hs (fun j h9 => by cases h9) (fun _ _ => rfl) ?_
    show ab_E w (d + 1) mt_M_tellAll 74 [.ref mx, .int v1] [] (I12, L, ab_RR, n, nc, ns) res
    refine ab_aload_n (i := 0) d_M_tellAll_74 rfl rfl ?_
    refine ab_bipush (v := 32) d_M_tellAll_75 rfl ?_
    obtain ⟨I14, hC, h⟩ := h
    refine ab_callV (me2 := mt_M_tellByte) (b := mx) (as := [.int 32]) (st := []) (rv := none) (M2 := (I14, L, ab_RR, n, nc, ns)) d_M_tellAll_77 ce_M_tellByte v_1853 v_1855 v_121 (by decide) rfl (Nat.le_of_ble_eq_true rfl) hC (Nat.le_refl _) (Nat.le_refl _) hc hs (fun j h9 => by cases h9) (fun _ _ => rfl) ?_
    show ab_E w (d + 1) mt_M_tellAll 80 [.ref mx, .int v1] [] (I14, L, ab_RR, n, nc, ns) res
    refine ab_aload_n (i := 0) d_M_tellAll_80 rfl rfl ?_
    refine ab_aload_n (i := 0) d_M_tellAll_81 rfl rfl ?_
    refine ab_iload_n (i := 1) d_M_tellAll_82 rfl rfl ?_
    obtain ⟨r15, hC, h⟩ := h
    refine ab_callV (me2 := mt_M_priceOf) (b := mx) (as := [.int v1]) (st := [.ref mx]) (rv := (some (.int r15))) (M2 := (I14, L, ab_RR, n, nc, ns)) d_M_tellAll_83 ce_M_priceOf v_1654 v_1656 v_83 (by decide) rfl (Nat.le_of_ble_eq_true rfl) hC (Nat.le_refl _) (Nat.le_refl _) hc hs (fun j h9 => by cases h9) (fun _ _ => rfl) ?_
    show ab_E w (d + 1) mt_M_tellAll 86 [.ref mx, .int v1] [.int r15, .ref mx] (I14, L, ab_RR, n, nc, ns) res
    obtain ⟨I17, hC, h⟩ := h
    refine ab_callV (me2 := mt_M_tellNumber) (b := mx) (as := [.int r15]) (st := []) (rv := none) (M2 := (I17, L, ab_RR, n, nc, ns)) d_M_tellAll_86 ce_M_tellNumber v_1857 v_1859 v_122 (by decide) rfl (Nat.le_of_ble_eq_true rfl) hC (Nat.le_refl _) (Nat.le_refl _) hc hs (fun j h9 => by cases h9) (fun _ _ => rfl) ?_
    show ab_E w (d + 1) mt_M_tellAll 89 [.ref mx, .int v1] [] (I17, L, ab_RR, n, nc, ns) res
    refine ab_aload_n (i := 0) d_M_tellAll_89 rfl rfl ?_
    refine ab_bipush (v := 32) d_M_tellAll_90 rfl ?_
    obtain ⟨I19, hC, h⟩ := h
    refine ab_callV (me2 := mt_M_tellByte) (b := mx) (as := [.int 32]) (st := []) (rv := none) (M2 := (I19, L, ab_RR, n, nc, ns)) d_M_tellAll_92 ce_M_tellByte v_1853 v_1855 v_121 (by decide) rfl (Nat.le_of_ble_eq_true rfl) hC (Nat.le_refl _) (Nat.le_refl _) hc hs (fun j h9 => by cases h9) (fun _ _ => rfl) ?_
    show ab_E w (d + 1) mt_M_tellAll 95 [.ref mx, .int v1] [] (I19, L, ab_RR, n, nc, ns) res
    refine ab_aload_n (i := 0) d_M_tellAll_95 rfl rfl ?_
    refine ab_aload_n (i := 0) d_M_tellAll_96 rfl rfl ?_
    refine ab_getR (ci := 11) (k := 4) (j := mx_now) d_M_tellAll_97 v_1372 rfl (by decide) (by decide) rfl r_mx_4 ?_
    refine ab_bipush (v := 75) d_M_tellAll_100 rfl ?_
    refine ab_iload_n (i := 1) d_M_tellAll_102 rfl rfl ?_
    refine ab_iadd d_M_tellAll_103 ?_
    have g20 := h.1; have h := h.2
    refine ab_iald d_M_tellAll_104 rfl rfl g20 ?_
    obtain ⟨I22, hC, h⟩ := h
    refine ab_callV (me2 := mt_M_tellNumber) (b := mx) (as := [.int (I19 mx_now (75 + v1).toNatClampNeg)]) (st := []) (rv := none) (M2 := (I22, L, ab_RR, n, nc, ns)) d_M_tellAll_105 ce_M_tellNumber v_1857 v_1859 v_122 (by decide) rfl (Nat.le_of_ble_eq_true rfl) hC (Nat.le_refl _) (Nat.le_refl _) hc hs (fun j h9 => by cases h9) (fun _ _ => rfl) ?_
    show ab_E w (d + 1) mt_M_tellAll 108 [.ref mx, .int v1] [] (I22, L, ab_RR, n, nc, ns) res
    refine ab_aload_n (i := 0) d_M_tellAll_108 rfl rfl ?_
    refine ab_bipush (v := 59) d_M_tellAll_109 rfl ?_
    obtain ⟨I24, hC, h⟩ := h
    refine ab_callV (me2 := mt_M_tellByte) (b := mx) (as := [.int 59]) (st := []) (rv := none) (M2 := (I24, L, ab_RR, n, nc, ns)) d_M_tellAll_111 ce_M_tellByte v_1853 v_1855 v_121 (by decide) rfl (Nat.le_of_ble_eq_true rfl) hC (Nat.le_refl _) (Nat.le_refl _) hc hs (fun j h9 => by cases h9) (fun _ _ => rfl) ?_
    show ab_E w (d + 1) mt_M_tellAll 114 [.ref mx, .int v1] [] (I24, L, ab_RR, n, nc, ns) res
    refine ab_iinc (i := 1) (v := (v1 + 1)) d_M_tellAll_114 rfl rfl (by decide) (Or.inr rfl) ?_
    refine ab_goto (tgt := 28) d_M_tellAll_117 (by decide) ?_
    exact h
theorem q_M_tellAll_122 {w : ab_Wd} {d n nc ns : Nat} {I : Nat → Nat → Int32} {L : Nat → Nat → Int64} {res : ab_Re} (v1 : Int32) (hc : nc ≤ res.2.2.2.2.2.1) (hs : ns ≤ res.2.2.2.2.2.2)
    (h : ∃ (r1 : Int32), ab_C w d mt_M_many [.ref mx] (I, L, ab_RR, n, nc, ns) (.inl (some (.int r1)), (I, L, ab_RR, n, nc, ns)) ∧ ((r1 ≤ v1 → (res = (.inl none, (I, L, ab_RR, n, nc, ns)))) ∧ (¬ r1 ≤ v1 → (∃ (r3 : Int32), ab_C w d mt_M_isSound [.ref mx, .int v1] (I, L, ab_RR, n, nc, ns) (.inl (some (.int r3)), (I, L, ab_RR, n, nc, ns)) ∧ ((r3 = 0 → (∃ (I6 : Nat → Nat → Int32), ab_C w d mt_M_tellWord [.ref mx, .ref 480] (I, L, ab_RR, n, nc, ns) (.inl none, (I6, L, ab_RR, n, nc, ns)) ∧ ∃ (I8 : Nat → Nat → Int32), ab_C w d mt_M_tellNumber [.ref mx, .int v1] (I6, L, ab_RR, n, nc, ns) (.inl none, (I8, L, ab_RR, n, nc, ns)) ∧ ∃ (I10 : Nat → Nat → Int32), ab_C w d mt_M_tellByte [.ref mx, .int 59] (I8, L, ab_RR, n, nc, ns) (.inl none, (I10, L, ab_RR, n, nc, ns)) ∧ ab_E w (d + 1) mt_M_tellAll 159 [.ref mx, .int v1] [] (I10, L, ab_RR, n, nc, ns) res)) ∧ (¬ r3 = 0 → (ab_E w (d + 1) mt_M_tellAll 159 [.ref mx, .int v1] [] (I, L, ab_RR, n, nc, ns) res))))))) : ab_E w (d + 1) mt_M_tellAll 122 [.ref mx, .int v1] [] (I, L, ab_RR, n, nc, ns) res := by
  refine ab_iload_n (i := 1) d_M_tellAll_122 rfl rfl ?_
  refine ab_aload_n (i := 0) d_M_tellAll_123 rfl rfl ?_
  obtain ⟨r1, hC, h⟩ := h
  refine ab_callV (me2 := mt_M_many) (b := mx) (as := []) (st := [.int v1]) (rv := (some (.int r1))) (M2 := (I, L, ab_RR, n, nc, ns)) d_M_tellAll_124 ce_M_many v_1635 v_1637 v_79 (by decide) rfl (Nat.le_of_ble_eq_true rfl) hC (Nat.le_refl _) (Nat.le_refl _) hc hs (fun j h9 => by cases h9) (fun _ _ => rfl) ?_
  show ab_E w (d + 1) mt_M_tellAll 127 [.ref mx, .int v1] [.int r1, .int v1] (I, L, ab_RR, n, nc, ns) res
  refine ab_icmp_ge (tgt := 165) d_M_tellAll_127 (by decide) (fun c2 => ?_) (fun c2 => ?_)
  · have h := h.1 c2
    exact ab_vret d_M_tellAll_165 rfl h
  · have h := h.2 c2
    refine ab_aload_n (i := 0) d_M_tellAll_130 rfl rfl ?_
    refine ab_iload_n (i := 1) d_M_tellAll_131 rfl rfl ?_
    obtain ⟨r3, hC, h⟩ := h
    refine ab_callV (me2 := mt_M_isSound) (b := mx) (as := [.int v1]) (st := []) (rv := (some (.int r3))) (M2 := (I, L, ab_RR, n, nc, ns)) d_M_tellAll_132 ce_M_isSound v_1679 v_1681 v_89 (by decide) rfl (Nat.le_of_ble_eq_true rfl) hC (Nat.le_refl _) (Nat.le_refl _) hc hs (fun j h9 => by cases h9) (fun _ _ => rfl) ?_
    show ab_E w (d + 1) mt_M_tellAll 135 [.ref mx, .int v1] [.int r3] (I, L, ab_RR, n, nc, ns) res
    refine ab_if_eq (tgt := 141) d_M_tellAll_135 (by decide) (fun c4 => ?_) (fun c4 => ?_)
    · have h := h.1 c4
      refine ab_aload_n (i := 0) d_M_tellAll_141 rfl rfl ?_
      refine ab_ldcSW (j := 7) (tx := "broken ") d_M_tellAll_142 (by decide) (by decide +kernel) ?_
      obtain ⟨I6, hC, h⟩ := h
      refine ab_callV (me2 := mt_M_tellWord) (b := mx) (as := [.ref 480]) (st := []) (rv := none) (M2 := (I6, L, ab_RR, n, nc, ns)) d_M_tellAll_145 ce_M_tellWord v_1849 v_1851 v_120 (by decide) rfl (Nat.le_of_ble_eq_true rfl) hC (Nat.le_refl _) (Nat.le_refl _) hc hs (fun j h9 => by cases h9) (fun _ _ => rfl) ?_
      show ab_E w (d + 1) mt_M_tellAll 148 [.ref mx, .int v1] [] (I6, L, ab_RR, n, nc, ns) res
      refine ab_aload_n (i := 0) d_M_tellAll_148 rfl rfl ?_
      refine ab_iload_n (i := 1) d_M_tellAll_149 rfl rfl ?_
      obtain ⟨I8, hC, h⟩ := h
      refine ab_callV (me2 := mt_M_tellNumber) (b := mx) (as := [.int v1]) (st := []) (rv := none) (M2 := (I8, L, ab_RR, n, nc, ns)) d_M_tellAll_150 ce_M_tellNumber v_1857 v_1859 v_122 (by decide) rfl (Nat.le_of_ble_eq_true rfl) hC (Nat.le_refl _) (Nat.le_refl _) hc hs (fun j h9 => by cases h9) (fun _ _ => rfl) ?_
      show ab_E w (d + 1) mt_M_tellAll 153 [.ref mx, .int v1] [] (I8, L, ab_RR, n, nc, ns) res
      refine ab_aload_n (i := 0) d_M_tellAll_153 rfl rfl ?_
      refine ab_bipush (v := 59) d_M_tellAll_154 rfl ?_
      obtain ⟨I10, hC, h⟩ := h
      refine ab_callV (me2 := mt_M_tellByte) (b := mx) (as := [.int 59]) (st := []) (rv := none) (M2 := (I10, L, ab_RR, n, nc, ns)) d_M_tellAll_156 ce_M_tellByte v_1853 v_1855 v_121 (by decide) rfl (Nat.le_of_ble_eq_true rfl) hC (Nat.le_refl _) (Nat.le_refl _) hc hs (fun j h9 => by cases h9) (fun _ _ => rfl) ?_
      show ab_E w (d + 1) mt_M_tellAll 159 [.ref mx, .int v1] [] (I10, L, ab_RR, n, nc, ns) res
      exact h
    · have h := h.2 c4
      refine ab_goto (tgt := 159) d_M_tellAll_138 (by decide) ?_
      exact h
theorem q_M_tellAll_159 {w : ab_Wd} {d n nc ns : Nat} {I : Nat → Nat → Int32} {L : Nat → Nat → Int64} {res : ab_Re} (v1 : Int32) (hc : nc ≤ res.2.2.2.2.2.1) (hs : ns ≤ res.2.2.2.2.2.2)
    (h : ab_E w (d + 1) mt_M_tellAll 122 [.ref mx, .int (v1 + 1)] [] (I, L, ab_RR, n, nc, ns) res) : ab_E w (d + 1) mt_M_tellAll 159 [.ref mx, .int v1] [] (I, L, ab_RR, n, nc, ns) res := by
  refine ab_iinc (i := 1) (v := (v1 + 1)) d_M_tellAll_159 rfl rfl (by decide) (Or.inr rfl) ?_
  refine ab_goto (tgt := 122) d_M_tellAll_162 (by decide) ?_
  exact h
