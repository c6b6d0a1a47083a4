theorem d_M_lays_0 : decode (ab_bc mt_M_lays) 0 = .ok (.iload_n 1, 1) := by decide +kernel
theorem d_M_lays_1 : decode (ab_bc mt_M_lays) 1 = .ok (.iconst (-1), 1) := by decide +kernel
theorem d_M_lays_2 : decode (ab_bc mt_M_lays) 2 = .ok (.if_icmp .eq 23, 3) := by decide +kernel
theorem d_M_lays_5 : decode (ab_bc mt_M_lays) 5 = .ok (.iload_n 2, 1) := by decide +kernel
theorem d_M_lays_6 : decode (ab_bc mt_M_lays) 6 = .ok (.iconst (-1), 1) := by decide +kernel
theorem d_M_lays_7 : decode (ab_bc mt_M_lays) 7 = .ok (.if_icmp .eq 18, 3) := by decide +kernel
theorem d_M_lays_10 : decode (ab_bc mt_M_lays) 10 = .ok (.aload_n 0, 1) := by decide +kernel
theorem d_M_lays_11 : decode (ab_bc mt_M_lays) 11 = .ok (.getfield 74, 3) := by decide +kernel
theorem d_M_lays_14 : decode (ab_bc mt_M_lays) 14 = .ok (.bipush 10, 2) := by decide +kernel
theorem d_M_lays_16 : decode (ab_bc mt_M_lays) 16 = .ok (.iload_n 1, 1) := by decide +kernel
theorem d_M_lays_17 : decode (ab_bc mt_M_lays) 17 = .ok (.imul, 1) := by decide +kernel
theorem d_M_lays_18 : decode (ab_bc mt_M_lays) 18 = .ok (.iload_n 2, 1) := by decide +kernel
theorem d_M_lays_19 : decode (ab_bc mt_M_lays) 19 = .ok (.iadd, 1) := by decide +kernel
theorem d_M_lays_20 : decode (ab_bc mt_M_lays) 20 = .ok (.dup2, 1) := by decide +kernel
theorem d_M_lays_21 : decode (ab_bc mt_M_lays) 21 = .ok (.laload, 1) := by decide +kernel
theorem d_M_lays_22 : decode (ab_bc mt_M_lays) 22 = .ok (.lload_n 3, 1) := by decide +kernel
theorem d_M_lays_23 : decode (ab_bc mt_M_lays) 23 = .ok (.ladd, 1) := by decide +kernel
theorem d_M_lays_24 : decode (ab_bc mt_M_lays) 24 = .ok (.lastore, 1) := by decide +kernel
theorem d_M_lays_25 : decode (ab_bc mt_M_lays) 25 = .ok (.return_, 1) := by decide +kernel
-- CableKeeperModel.lays(IIJ)V over mx
theorem q_M_lays_0 {w : ab_Wd} {d n nc ns : Nat} {I : Nat → Nat → Int32} {L : Nat → Nat → Int64} {res : ab_Re} (v1 : Int32) (v2 : Int32) (v3 : Int64) (hc : nc ≤ res.2.2.2.2.2.1) (hs : ns ≤ res.2.2.2.2.2.2)
    (h : ((v1 = (-1) → (ab_E w d mt_M_lays 25 [.ref mx, .int v1, .int v2, .long v3, .null] [] (I, L, ab_RR, n, nc, ns) res)) ∧ (¬ v1 = (-1) → ((v2 = (-1) → (ab_E w d mt_M_lays 25 [.ref mx, .int v1, .int v2, .long v3, .null] [] (I, L, ab_RR, n, nc, ns) res)) ∧ (¬ v2 = (-1) → ((vp_in ((10 * v1) + v2) 100) ∧ (vp_in ((10 * v1) + v2) 100) ∧ ab_E w d mt_M_lays 25 [.ref mx, .int v1, .int v2, .long v3, .null] [] (I, (ab_upL L mx_laplace ((10 * v1) + v2).toNatClampNeg ((L mx_laplace ((10 * v1) + v2).toNatClampNeg) + v3)), ab_RR, n, nc, ns) res)))))) : ab_E w d mt_M_lays 0 [.ref mx, .int v1, .int v2, .long v3, .null] [] (I, L, ab_RR, n, nc, ns) res := by
  refine ab_iload_n (i := 1) d_M_lays_0 rfl rfl ?_
  refine ab_iconst (v := (-1)) d_M_lays_1 rfl ?_
  refine ab_icmp_eq (tgt := 25) d_M_lays_2 (by decide) (fun c1 => ?_) (fun c1 => ?_)
  · have h := h.1 c1
    exact h
  · have h := h.2 c1
    refine ab_iload_n (i := 2) d_M_lays_5 rfl rfl ?_
    refine ab_iconst (v := (-1)) d_M_lays_6 rfl ?_
    refine ab_icmp_eq (tgt := 25) d_M_lays_7 (by decide) (fun c2 => ?_) (fun c2 => ?_)
    · have h := h.1 c2
      exact h
    · have h := h.2 c2
      refine ab_aload_n (i := 0) d_M_lays_10 rfl rfl ?_
      refine ab_getR (ci := 11) (k := 36) (j := mx_laplace) d_M_lays_11 v_1404 rfl (by decide) (by decide) rfl r_mx_36 ?_
      refine ab_bipush (v := 10) d_M_lays_14 rfl ?_
      refine ab_iload_n (i := 1) d_M_lays_16 rfl rfl ?_
      refine ab_imul d_M_lays_17 ?_
      refine ab_iload_n (i := 2) d_M_lays_18 rfl rfl ?_
      refine ab_iadd d_M_lays_19 ?_
      refine ab_dup2 d_M_lays_20 ?_
      have g3 := h.1; have h := h.2
      refine ab_lald d_M_lays_21 rfl rfl g3 ?_
      refine ab_lload_n (i := 3) d_M_lays_22 rfl rfl ?_
      refine ab_ladd d_M_lays_23 ?_
      have g4 := h.1; have h := h.2
      refine ab_last d_M_lays_24 rfl rfl g4 ?_
      exact h
theorem q_M_lays_25 {w : ab_Wd} {d n nc ns : Nat} {I : Nat → Nat → Int32} {L : Nat → Nat → Int64} {res : ab_Re} (v1 : Int32) (v2 : Int32) (v3 : Int64) (hc : nc ≤ res.2.2.2.2.2.1) (hs : ns ≤ res.2.2.2.2.2.2)
    (h : res = (.inl none, (I, L, ab_RR, n, nc, ns))) : ab_E w d mt_M_lays 25 [.ref mx, .int v1, .int v2, .long v3, .null] [] (I, L, ab_RR, n, nc, ns) res := by
  exact ab_vret d_M_lays_25 rfl h
theorem d_M_alike_0 : decode (ab_bc mt_M_alike) 0 = .ok (.aload_n 0, 1) := by decide +kernel
theorem d_M_alike_1 : decode (ab_bc mt_M_alike) 1 = .ok (.iconst 0, 1) := by decide +kernel
theorem d_M_alike_2 : decode (ab_bc mt_M_alike) 2 = .ok (.putfield 108, 3) := by decide +kernel
theorem d_M_alike_5 : decode (ab_bc mt_M_alike) 5 = .ok (.lconst 1, 1) := by decide +kernel
theorem d_M_alike_6 : decode (ab_bc mt_M_alike) 6 = .ok (.lstore_n 1, 1) := by decide +kernel
theorem d_M_alike_7 : decode (ab_bc mt_M_alike) 7 = .ok (.iconst 1, 1) := by decide +kernel
theorem d_M_alike_8 : decode (ab_bc mt_M_alike) 8 = .ok (.istore_n 3, 1) := by decide +kernel
theorem d_M_alike_9 : decode (ab_bc mt_M_alike) 9 = .ok (.iload_n 3, 1) := by decide +kernel
theorem d_M_alike_10 : decode (ab_bc mt_M_alike) 10 = .ok (.sipush 999, 3) := by decide +kernel
theorem d_M_alike_13 : decode (ab_bc mt_M_alike) 13 = .ok (.if_icmp .gt 78, 3) := by decide +kernel
theorem d_M_alike_16 : decode (ab_bc mt_M_alike) 16 = .ok (.iconst 0, 1) := by decide +kernel
theorem d_M_alike_17 : decode (ab_bc mt_M_alike) 17 = .ok (.istore 4, 2) := by decide +kernel
theorem d_M_alike_19 : decode (ab_bc mt_M_alike) 19 = .ok (.iconst 0, 1) := by decide +kernel
theorem d_M_alike_20 : decode (ab_bc mt_M_alike) 20 = .ok (.istore 5, 2) := by decide +kernel
theorem d_M_alike_22 : decode (ab_bc mt_M_alike) 22 = .ok (.iload 5, 2) := by decide +kernel
theorem d_M_alike_24 : decode (ab_bc mt_M_alike) 24 = .ok (.aload_n 0, 1) := by decide +kernel
theorem d_M_alike_25 : decode (ab_bc mt_M_alike) 25 = .ok (.invokevirtual 234, 3) := by decide +kernel
theorem d_M_alike_28 : decode (ab_bc mt_M_alike) 28 = .ok (.if_icmp .ge 40, 3) := by decide +kernel
theorem d_M_alike_31 : decode (ab_bc mt_M_alike) 31 = .ok (.iload 4, 2) := by decide +kernel
theorem d_M_alike_33 : decode (ab_bc mt_M_alike) 33 = .ok (.ifCond .ne 22, 3) := by decide +kernel
theorem d_M_alike_36 : decode (ab_bc mt_M_alike) 36 = .ok (.aload_n 0, 1) := by decide +kernel
theorem d_M_alike_37 : decode (ab_bc mt_M_alike) 37 = .ok (.iload 5, 2) := by decide +kernel
theorem d_M_alike_39 : decode (ab_bc mt_M_alike) 39 = .ok (.invokevirtual 262, 3) := by decide +kernel
theorem d_M_alike_42 : decode (ab_bc mt_M_alike) 42 = .ok (.ifCond .eq 17, 3) := by decide +kernel
theorem d_M_alike_45 : decode (ab_bc mt_M_alike) 45 = .ok (.aload_n 0, 1) := by decide +kernel
theorem d_M_alike_46 : decode (ab_bc mt_M_alike) 46 = .ok (.iload 5, 2) := by decide +kernel
theorem d_M_alike_48 : decode (ab_bc mt_M_alike) 48 = .ok (.invokevirtual 222, 3) := by decide +kernel
theorem d_M_alike_51 : decode (ab_bc mt_M_alike) 51 = .ok (.iload_n 3, 1) := by decide +kernel
theorem d_M_alike_52 : decode (ab_bc mt_M_alike) 52 = .ok (.if_icmp .ne 7, 3) := by decide +kernel
theorem d_M_alike_55 : decode (ab_bc mt_M_alike) 55 = .ok (.iconst 1, 1) := by decide +kernel
theorem d_M_alike_56 : decode (ab_bc mt_M_alike) 56 = .ok (.goto 4, 3) := by decide +kernel
theorem d_M_alike_59 : decode (ab_bc mt_M_alike) 59 = .ok (.iconst 0, 1) := by decide +kernel
theorem d_M_alike_60 : decode (ab_bc mt_M_alike) 60 = .ok (.istore 4, 2) := by decide +kernel
theorem d_M_alike_62 : decode (ab_bc mt_M_alike) 62 = .ok (.iinc 5 1, 3) := by decide +kernel
theorem d_M_alike_65 : decode (ab_bc mt_M_alike) 65 = .ok (.goto (-43), 3) := by decide +kernel
theorem d_M_alike_68 : decode (ab_bc mt_M_alike) 68 = .ok (.lload_n 1, 1) := by decide +kernel
theorem d_M_alike_69 : decode (ab_bc mt_M_alike) 69 = .ok (.iload 4, 2) := by decide +kernel
theorem d_M_alike_71 : decode (ab_bc mt_M_alike) 71 = .ok (.ifCond .eq 11, 3) := by decide +kernel
theorem d_M_alike_74 : decode (ab_bc mt_M_alike) 74 = .ok (.aload_n 0, 1) := by decide +kernel
theorem d_M_alike_75 : decode (ab_bc mt_M_alike) 75 = .ok (.iload_n 3, 1) := by decide +kernel
theorem d_M_alike_76 : decode (ab_bc mt_M_alike) 76 = .ok (.invokevirtual 385, 3) := by decide +kernel
theorem d_M_alike_79 : decode (ab_bc mt_M_alike) 79 = .ok (.goto 4, 3) := by decide +kernel
theorem d_M_alike_82 : decode (ab_bc mt_M_alike) 82 = .ok (.lconst 1, 1) := by decide +kernel
theorem d_M_alike_83 : decode (ab_bc mt_M_alike) 83 = .ok (.lmul, 1) := by decide +kernel
theorem d_M_alike_84 : decode (ab_bc mt_M_alike) 84 = .ok (.lstore_n 1, 1) := by decide +kernel
theorem d_M_alike_85 : decode (ab_bc mt_M_alike) 85 = .ok (.iinc 3 1, 3) := by decide +kernel
theorem d_M_alike_88 : decode (ab_bc mt_M_alike) 88 = .ok (.goto (-79), 3) := by decide +kernel
theorem d_M_alike_91 : decode (ab_bc mt_M_alike) 91 = .ok (.lload_n 1, 1) := by decide +kernel
theorem d_M_alike_92 : decode (ab_bc mt_M_alike) 92 = .ok (.lreturn, 1) := by decide +kernel
-- CableKeeperModel.alike()J over mx
theorem q_M_alike_0 {w : ab_Wd} {d n nc ns : Nat} {I : Nat → Nat → Int32} {L : Nat → Nat → Int64} {res : ab_Re}  (hc : nc ≤ res.2.2.2.2.2.1) (hs : ns ≤ res.2.2.2.2.2.2)
    (h : ab_E w (d + 1) mt_M_alike 9 [.ref mx, .long 1, .null, .int 1, .null, .null] [] ((ab_up I mx 1 0), L, ab_RR, n, nc, ns) res) : ab_E w (d + 1) mt_M_alike 0 [.ref mx, .null, .null, .null, .null, .null] [] (I, L, ab_RR, n, nc, ns) res := by
  refine ab_aload_n (i := 0) d_M_alike_0 rfl rfl ?_
  refine ab_iconst (v := 0) d_M_alike_1 rfl ?_
  refine ab_putI (ci := 11) (k := 1) d_M_alike_2 v_1369 rfl (by decide) (by decide) rfl (Or.inl rfl) rfl rfl ?_
  refine ab_lconst (v := 1) d_M_alike_5 rfl ?_
  refine ab_lstore_n (i := 1) d_M_alike_6 rfl (by decide) (Or.inr rfl) ?_
  refine ab_iconst (v := 1) d_M_alike_7 rfl ?_
  refine ab_istore_n (i := 3) d_M_alike_8 rfl (by decide) (Or.inr rfl) ?_
  exact h
theorem q_M_alike_9 {w : ab_Wd} {d n nc ns : Nat} {I : Nat → Nat → Int32} {L : Nat → Nat → Int64} {res : ab_Re} (v1 : Int64) (v3 : Int32) (hc : nc ≤ res.2.2.2.2.2.1) (hs : ns ≤ res.2.2.2.2.2.2)
    (h : ((999 < v3 → (res = (.inl (some (.long v1)), (I, L, ab_RR, n, nc, ns)))) ∧ (¬ 999 < v3 → (ab_E w (d + 1) mt_M_alike 22 [.ref mx, .long v1, .null, .int v3, .int 0, .int 0] [] (I, L, ab_RR, n, nc, ns) res)))) : ab_E w (d + 1) mt_M_alike 9 [.ref mx, .long v1, .null, .int v3, .null, .null] [] (I, L, ab_RR, n, nc, ns) res := by
  refine ab_iload_n (i := 3) d_M_alike_9 rfl rfl ?_
  refine ab_sipush (v := 999) d_M_alike_10 rfl ?_
  refine ab_icmp_gt (tgt := 91) d_M_alike_13 (by decide) (fun c1 => ?_) (fun c1 => ?_)
  · have h := h.1 c1
    refine ab_lload_n (i := 1) d_M_alike_91 rfl rfl ?_
    exact ab_lret d_M_alike_92 rfl h
  · have h := h.2 c1
    refine ab_iconst (v := 0) d_M_alike_16 rfl ?_
    refine ab_istore (i := 4) d_M_alike_17 (by decide) (Or.inr rfl) ?_
    refine ab_iconst (v := 0) d_M_alike_19 rfl ?_
    refine ab_istore (i := 5) d_M_alike_20 (by decide) (Or.inr rfl) ?_
    exact h
theorem q_M_alike_22 {w : ab_Wd} {d n nc ns : Nat} {I : Nat → Nat → Int32} {L : Nat → Nat → Int64} {res : ab_Re} (v1 : Int64) (v3 : Int32) (v4 : Int32) (v5 : Int32) (hc : nc ≤ res.2.2.2.2.2.1) (hs : ns ≤ res.2.2.2.2.2.2)
    (h : ∃ (r1 : Int32), ab_C w d mt_M_many [.ref mx] (I, L, ab_RR, n, nc, ns) (.inl (some (.int r1)), (I, L, ab_RR, n, nc, ns)) ∧ ((r1 ≤ v5 → ((v4 = 0 → (ab_E w (d + 1) mt_M_alike 83 [.ref mx, .long v1, .null, .int v3, .int v4, .int v5] [.long 1, .long v1] (I, L, ab_RR, n, nc, ns) res)) ∧ (¬ v4 = 0 → (∃ (r4 : Int64) (I5 : Nat → Nat → Int32) (L6 : Nat → Nat → Int64), ab_C w d mt_M_waysAt [.ref mx, .int v3] (I, L, ab_RR, n, nc, ns) (.inl (some (.long r4)), (I5, L6, ab_RR, n, nc, ns)) ∧ ab_E w (d + 1) mt_M_alike 83 [.ref mx, .long v1, .null, .int v3, .int v4, .int v5] [.long r4, .long v1] (I5, L6, ab_RR, n, nc, ns) res)))) ∧ (¬ r1 ≤ v5 → ((¬ v4 = 0 → (ab_E w (d + 1) mt_M_alike 55 [.ref mx, .long v1, .null, .int v3, .int v4, .int v5] [] (I, L, ab_RR, n, nc, ns) res)) ∧ (v4 = 0 → (∃ (r8 : Int32), ab_C w d mt_M_isSound [.ref mx, .int v5] (I, L, ab_RR, n, nc, ns) (.inl (some (.int r8)), (I, L, ab_RR, n, nc, ns)) ∧ ((r8 = 0 → (ab_E w (d + 1) mt_M_alike 59 [.ref mx, .long v1, .null, .int v3, .int v4, .int v5] [] (I, L, ab_RR, n, nc, ns) res)) ∧ (¬ r8 = 0 → (∃ (r10 : Int32), ab_C w d mt_M_priceOf [.ref mx, .int v5] (I, L, ab_RR, n, nc, ns) (.inl (some (.int r10)), (I, L, ab_RR, n, nc, ns)) ∧ ((¬ r10 = v3 → (ab_E w (d + 1) mt_M_alike 59 [.ref mx, .long v1, .null, .int v3, .int v4, .int v5] [] (I, L, ab_RR, n, nc, ns) res)) ∧ (r10 = v3 → (ab_E w (d + 1) mt_M_alike 55 [.ref mx, .long v1, .null, .int v3, .int v4, .int v5] [] (I, L, ab_RR, n, nc, ns) res)))))))))))) : ab_E w (d + 1) mt_M_alike 22 [.ref mx, .long v1, .null, .int v3, .int v4, .int v5] [] (I, L, ab_RR, n, nc, ns) res := by
  refine ab_iload (i := 5) d_M_alike_22 rfl ?_
  refine ab_aload_n (i := 0) d_M_alike_24 rfl rfl ?_
  obtain ⟨r1, hC, h⟩ := h
  refine ab_callV (me2 := mt_M_many) (b := mx) (as := []) (st := [.int v5]) (rv := (some (.int r1))) (M2 := (I, L, ab_RR, n, nc, ns)) d_M_alike_25 ce_M_many v_1635 v_1637 v_79 (by decide) rfl (by decide) hC (Nat.le_refl _) (Nat.le_refl _) hc hs (fun j h9 => by cases h9) (fun _ _ => rfl) ?_
  show ab_E w (d + 1) mt_M_alike 28 [.ref mx, .long v1, .null, .int v3, .int v4, .int v5] [.int r1, .int v5] (I, L, ab_RR, n, nc, ns) res
  refine ab_icmp_ge (tgt := 68) d_M_alike_28 (by decide) (fun c2 => ?_) (fun c2 => ?_)
  · have h := h.1 c2
    refine ab_lload_n (i := 1) d_M_alike_68 rfl rfl ?_
    refine ab_iload (i := 4) d_M_alike_69 rfl ?_
    refine ab_if_eq (tgt := 82) d_M_alike_71 (by decide) (fun c3 => ?_) (fun c3 => ?_)
    · have h := h.1 c3
      refine ab_lconst (v := 1) d_M_alike_82 rfl ?_
      exact h
    · have h := h.2 c3
      refine ab_aload_n (i := 0) d_M_alike_74 rfl rfl ?_
      refine ab_iload_n (i := 3) d_M_alike_75 rfl rfl ?_
      obtain ⟨r4, I5, L6, hC, h⟩ := h
      refine ab_callV (me2 := mt_M_waysAt) (b := mx) (as := [.int v3]) (st := [.long v1]) (rv := (some (.long r4))) (M2 := (I5, L6, ab_RR, n, nc, ns)) d_M_alike_76 ce_M_waysAt v_1827 v_1829 v_116 (by decide) rfl (by decide) hC (Nat.le_refl _) (Nat.le_refl _) hc hs (fun j h9 => by cases h9) (fun _ _ => rfl) ?_
      show ab_E w (d + 1) mt_M_alike 79 [.ref mx, .long v1, .null, .int v3, .int v4, .int v5] [.long r4, .long v1] (I5, L6, ab_RR, n, nc, ns) res
      refine ab_goto (tgt := 83) d_M_alike_79 (by decide) ?_
      exact h
  · have h := h.2 c2
    refine ab_iload (i := 4) d_M_alike_31 rfl ?_
    refine ab_if_ne (tgt := 55) d_M_alike_33 (by decide) (fun c7 => ?_) (fun c7 => ?_)
    · have h := h.1 c7
      exact h
    · have h := h.2 c7
      refine ab_aload_n (i := 0) d_M_alike_36 rfl rfl ?_
      refine ab_iload (i := 5) d_M_alike_37 rfl ?_
      obtain ⟨r8, hC, h⟩ := h
      refine ab_callV (me2 := mt_M_isSound) (b := mx) (as := [.int v5]) (st := []) (rv := (some (.int r8))) (M2 := (I, L, ab_RR, n, nc, ns)) d_M_alike_39 ce_M_isSound v_1679 v_1681 v_89 (by decide) rfl (by decide) hC (Nat.le_refl _) (Nat.le_refl _) hc hs (fun j h9 => by cases h9) (fun _ _ => rfl) ?_
      show ab_E w (d + 1) mt_M_alike 42 [.ref mx, .long v1, .null, .int v3, .int v4, .int v5] [.int r8] (I, L, ab_RR, n, nc, ns) res
      refine ab_if_eq (tgt := 59) d_M_alike_42 (by decide) (fun c9 => ?_) (fun c9 => ?_)
      · have h := h.1 c9
        exact h
      · have h := h.2 c9
        refine ab_aload_n (i := 0) d_M_alike_45 rfl rfl ?_
        refine ab_iload (i := 5) d_M_alike_46 rfl ?_
        obtain ⟨r10, hC, h⟩ := h
        refine ab_callV (me2 := mt_M_priceOf) (b := mx) (as := [.int v5]) (st := []) (rv := (some (.int r10))) (M2 := (I, L, ab_RR, n, nc, ns)) d_M_alike_48 ce_M_priceOf v_1654 v_1656 v_83 (by decide) rfl (by decide) hC (Nat.le_refl _) (Nat.le_refl _) hc hs (fun j h9 => by cases h9) (fun _ _ => rfl) ?_
        show ab_E w (d + 1) mt_M_alike 51 [.ref mx, .long v1, .null, .int v3, .int v4, .int v5] [.int r10] (I, L, ab_RR, n, nc, ns) res
        refine ab_iload_n (i := 3) d_M_alike_51 rfl rfl ?_
        refine ab_icmp_ne (tgt := 59) d_M_alike_52 (by decide) (fun c11 => ?_) (fun c11 => ?_)
        · have h := h.1 c11
          exact h
        · have h := h.2 c11
          exact h
theorem q_M_alike_55 {w : ab_Wd} {d n nc ns : Nat} {I : Nat → Nat → Int32} {L : Nat → Nat → Int64} {res : ab_Re} (v1 : Int64) (v3 : Int32) (v4 : Int32) (v5 : Int32) (hc : nc ≤ res.2.2.2.2.2.1) (hs : ns ≤ res.2.2.2.2.2.2)
    (h : ab_E w (d + 1) mt_M_alike 60 [.ref mx, .long v1, .null, .int v3, .int v4, .int v5] [.int 1] (I, L, ab_RR, n, nc, ns) res) : ab_E w (d + 1) mt_M_alike 55 [.ref mx, .long v1, .null, .int v3, .int v4, .int v5] [] (I, L, ab_RR, n, nc, ns) res := by
  refine ab_iconst (v := 1) d_M_alike_55 rfl ?_
  refine ab_goto (tgt := 60) d_M_alike_56 (by decide) ?_
  exact h
theorem q_M_alike_59 {w : ab_Wd} {d n nc ns : Nat} {I : Nat → Nat → Int32} {L : Nat → Nat → Int64} {res : ab_Re} (v1 : Int64) (v3 : Int32) (v4 : Int32) (v5 : Int32) (hc : nc ≤ res.2.2.2.2.2.1) (hs : ns ≤ res.2.2.2.2.2.2)
    (h : ab_E w (d + 1) mt_M_alike 60 [.ref mx, .long v1, .null, .int v3, .int v4, .int v5] [.int 0] (I, L, ab_RR, n, nc, ns) res) : ab_E w (d + 1) mt_M_alike 59 [.ref mx, .long v1, .null, .int v3, .int v4, .int v5] [] (I, L, ab_RR, n, nc, ns) res := by
  refine ab_iconst (v := 0) d_M_alike_59 rfl ?_
  exact h
theorem q_M_alike_60 {w : ab_Wd} {d n nc ns : Nat} {I : Nat → Nat → Int32} {L : Nat → Nat → Int64} {res : ab_Re} (v1 : Int64) (v3 : Int32) (v4 : Int32) (v5 : Int32) (s0 : Int32) (hc : nc ≤ res.2.2.2.2.2.1) (hs : ns ≤ res.2.2.2.2.2.2)
    (h : ab_E w (d + 1) mt_M_alike 22 [.ref mx, .long v1, .null, .int v3, .int s0, .int (v5 + 1)] [] (I, L, ab_RR, n, nc, ns) res) : ab_E w (d + 1) mt_M_alike 60 [.ref mx, .long v1, .null, .int v3, .int v4, .int v5] [.int s0] (I, L, ab_RR, n, nc, ns) res := by
  refine ab_istore (i := 4) d_M_alike_60 (by decide) (Or.inr rfl) ?_
  refine ab_iinc (i := 5) (v := (v5 + 1)) d_M_alike_62 rfl rfl (by decide) (Or.inr rfl) ?_
  refine ab_goto (tgt := 22) d_M_alike_65 (by decide) ?_
  exact h
theorem q_M_alike_83 {w : ab_Wd} {d n nc ns : Nat} {I : Nat → Nat → Int32} {L : Nat → Nat → Int64} {res : ab_Re} (v1 : Int64) (v3 : Int32) (v4 : Int32) (v5 : Int32) (s0 : Int64) (s1 : Int64) (hc : nc ≤ res.2.2.2.2.2.1) (hs : ns ≤ res.2.2.2.2.2.2)
    (h : ab_E w (d + 1) mt_M_alike 9 [.ref mx, .long (s0 * s1), .null, .int (v3 + 1), .null, .null] [] (I, L, ab_RR, n, nc, ns) res) : ab_E w (d + 1) mt_M_alike 83 [.ref mx, .long v1, .null, .int v3, .int v4, .int v5] [.long s1, .long s0] (I, L, ab_RR, n, nc, ns) res := by
  refine ab_lmul d_M_alike_83 ?_
  refine ab_lstore_n (i := 1) d_M_alike_84 rfl (by decide) (Or.inr rfl) ?_
  refine ab_iinc (i := 3) (v := (v3 + 1)) d_M_alike_85 rfl rfl (by decide) (Or.inr rfl) ?_
  refine ab_goto (tgt := 9) d_M_alike_88 (by decide) ?_
  refine ab_drop 4 ?_
  refine ab_drop 5 ?_
  exact h
theorem d_M_tellByte_0 : decode (ab_bc mt_M_tellByte) 0 = .ok (.aload_n 0, 1) := by decide +kernel
theorem d_M_tellByte_1 : decode (ab_bc mt_M_tellByte) 1 = .ok (.getfield 388, 3) := by decide +kernel
theorem d_M_tellByte_4 : decode (ab_bc mt_M_tellByte) 4 = .ok (.aload_n 0, 1) := by decide +kernel
theorem d_M_tellByte_5 : decode (ab_bc mt_M_tellByte) 5 = .ok (.getfield 391, 3) := by decide +kernel
theorem d_M_tellByte_8 : decode (ab_bc mt_M_tellByte) 8 = .ok (.if_icmp .ne 8, 3) := by decide +kernel
theorem d_M_tellByte_11 : decode (ab_bc mt_M_tellByte) 11 = .ok (.aload_n 0, 1) := by decide +kernel
theorem d_M_tellByte_12 : decode (ab_bc mt_M_tellByte) 12 = .ok (.iload_n 1, 1) := by decide +kernel
theorem d_M_tellByte_13 : decode (ab_bc mt_M_tellByte) 13 = .ok (.putfield 394, 3) := by decide +kernel
theorem d_M_tellByte_16 : decode (ab_bc mt_M_tellByte) 16 = .ok (.aload_n 0, 1) := by decide +kernel
theorem d_M_tellByte_17 : decode (ab_bc mt_M_tellByte) 17 = .ok (.dup, 1) := by decide +kernel
theorem d_M_tellByte_18 : decode (ab_bc mt_M_tellByte) 18 = .ok (.getfield 388, 3) := by decide +kernel
theorem d_M_tellByte_21 : decode (ab_bc mt_M_tellByte) 21 = .ok (.iconst 1, 1) := by decide +kernel
theorem d_M_tellByte_22 : decode (ab_bc mt_M_tellByte) 22 = .ok (.iadd, 1) := by decide +kernel
theorem d_M_tellByte_23 : decode (ab_bc mt_M_tellByte) 23 = .ok (.putfield 388, 3) := by decide +kernel
theorem d_M_tellByte_26 : decode (ab_bc mt_M_tellByte) 26 = .ok (.return_, 1) := by decide +kernel
-- CableKeeperModel.tellByte(I)V over mx
theorem q_M_tellByte_0 {w : ab_Wd} {d n nc ns : Nat} {I : Nat → Nat → Int32} {L : Nat → Nat → Int64} {res : ab_Re} (v1 : Int32) (hc : nc ≤ res.2.2.2.2.2.1) (hs : ns ≤ res.2.2.2.2.2.2)
    (h : ((¬ (I mx 38) = (I mx 37) → (ab_E w d mt_M_tellByte 16 [.ref mx, .int v1] [] (I, L, ab_RR, n, nc, ns) res)) ∧ ((I mx 38) = (I mx 37) → (ab_E w d mt_M_tellByte 16 [.ref mx, .int v1] [] ((ab_up I mx 39 v1), L, ab_RR, n, nc, ns) res)))) : ab_E w d mt_M_tellByte 0 [.ref mx, .int v1] [] (I, L, ab_RR, n, nc, ns) res := by
  refine ab_aload_n (i := 0) d_M_tellByte_0 rfl rfl ?_
  refine ab_getI (ci := 11) (k := 38) d_M_tellByte_1 v_1406 rfl (by decide) (by decide) rfl ?_
  refine ab_aload_n (i := 0) d_M_tellByte_4 rfl rfl ?_
  refine ab_getI (ci := 11) (k := 37) d_M_tellByte_5 v_1405 rfl (by decide) (by decide) rfl ?_
  refine ab_icmp_ne (tgt := 16) d_M_tellByte_8 (by decide) (fun c1 => ?_) (fun c1 => ?_)
  · have h := h.1 c1
    exact h
  · have h := h.2 c1
    refine ab_aload_n (i := 0) d_M_tellByte_11 rfl rfl ?_
    refine ab_iload_n (i := 1) d_M_tellByte_12 rfl rfl ?_
    refine ab_putI (ci := 11) (k := 39) d_M_tellByte_13 v_1407 rfl (by decide) (by decide) rfl (Or.inl rfl) rfl rfl ?_
    exact h
theorem q_M_tellByte_16 {w : ab_Wd} {d n nc ns : Nat} {I : Nat → Nat → Int32} {L : Nat → Nat → Int64} {res : ab_Re} (v1 : Int32) (hc : nc ≤ res.2.2.2.2.2.1) (hs : ns ≤ res.2.2.2.2.2.2)
    (h : res = (.inl none, ((ab_up I mx 38 ((I mx 38) + 1)), L, ab_RR, n, nc, ns))) : ab_E w d mt_M_tellByte 16 [.ref mx, .int v1] [] (I, L, ab_RR, n, nc, ns) res := by
  refine ab_aload_n (i := 0) d_M_tellByte_16 rfl rfl ?_
  refine ab_dupr d_M_tellByte_17 ?_
  refine ab_getI (ci := 11) (k := 38) d_M_tellByte_18 v_1406 rfl (by decide) (by decide) rfl ?_
  refine ab_iconst (v := 1) d_M_tellByte_21 rfl ?_
  refine ab_iadd d_M_tellByte_22 ?_
  refine ab_putI (ci := 11) (k := 38) d_M_tellByte_23 v_1406 rfl (by decide) (by decide) rfl (Or.inl rfl) rfl rfl ?_
  exact ab_vret d_M_tellByte_26 rfl h
theorem d_M_tellNumber_0 : decode (ab_bc mt_M_tellNumber) 0 = .ok (.iload_n 1, 1) := by decide +kernel
theorem d_M_tellNumber_1 : decode (ab_bc mt_M_tellNumber) 1 = .ok (.bipush 9, 2) := by decide +kernel
theorem d_M_tellNumber_3 : decode (ab_bc mt_M_tellNumber) 3 = .ok (.if_icmp .le 11, 3) := by decide +kernel
theorem d_M_tellNumber_6 : decode (ab_bc mt_M_tellNumber) 6 = .ok (.aload_n 0, 1) := by decide +kernel
theorem d_M_tellNumber_7 : decode (ab_bc mt_M_tellNumber) 7 = .ok (.iload_n 1, 1) := by decide +kernel
theorem d_M_tellNumber_8 : decode (ab_bc mt_M_tellNumber) 8 = .ok (.bipush 10, 2) := by decide +kernel
theorem d_M_tellNumber_10 : decode (ab_bc mt_M_tellNumber) 10 = .ok (.idiv, 1) := by decide +kernel
theorem d_M_tellNumber_11 : decode (ab_bc mt_M_tellNumber) 11 = .ok (.invokevirtual 400, 3) := by decide +kernel
theorem d_M_tellNumber_14 : decode (ab_bc mt_M_tellNumber) 14 = .ok (.aload_n 0, 1) := by decide +kernel
theorem d_M_tellNumber_15 : decode (ab_bc mt_M_tellNumber) 15 = .ok (.bipush 48, 2) := by decide +kernel
theorem d_M_tellNumber_17 : decode (ab_bc mt_M_tellNumber) 17 = .ok (.iload_n 1, 1) := by decide +kernel
theorem d_M_tellNumber_18 : decode (ab_bc mt_M_tellNumber) 18 = .ok (.bipush 10, 2) := by decide +kernel
theorem d_M_tellNumber_20 : decode (ab_bc mt_M_tellNumber) 20 = .ok (.irem, 1) := by decide +kernel
theorem d_M_tellNumber_21 : decode (ab_bc mt_M_tellNumber) 21 = .ok (.iadd, 1) := by decide +kernel
theorem d_M_tellNumber_22 : decode (ab_bc mt_M_tellNumber) 22 = .ok (.invokevirtual 397, 3) := by decide +kernel
theorem d_M_tellNumber_25 : decode (ab_bc mt_M_tellNumber) 25 = .ok (.return_, 1) := by decide +kernel
-- CableKeeperModel.tellNumber(I)V over mx
theorem q_M_tellNumber_0 {w : ab_Wd} {d n nc ns : Nat} {I : Nat → Nat → Int32} {L : Nat → Nat → Int64} {res : ab_Re} (v1 : Int32) (hc : nc ≤ res.2.2.2.2.2.1) (hs : ns ≤ res.2.2.2.2.2.2)
    (h : ((v1 ≤ 9 → (ab_E w (d + 1) mt_M_tellNumber 14 [.ref mx, .int v1] [] (I, L, ab_RR, n, nc, ns) res)) ∧ (¬ v1 ≤ 9 → (∃ (I3 : Nat → Nat → Int32), ab_C w d mt_M_tellNumber [.ref mx, .int (v1 / 10)] (I, L, ab_RR, n, nc, ns) (.inl none, (I3, L, ab_RR, n, nc, ns)) ∧ ab_E w (d + 1) mt_M_tellNumber 14 [.ref mx, .int v1] [] (I3, L, ab_RR, n, nc, ns) res)))) : ab_E w (d + 1) mt_M_tellNumber 0 [.ref mx, .int v1] [] (I, L, ab_RR, n, nc, ns) res := by
  refine ab_iload_n (i := 1) d_M_tellNumber_0 rfl rfl ?_
  refine ab_bipush (v := 9) d_M_tellNumber_1 rfl ?_
  refine ab_icmp_le (tgt := 14) d_M_tellNumber_3 (by decide) (fun c1 => ?_) (fun c1 => ?_)
  · have h := h.1 c1
    exact h
  · have h := h.2 c1
    refine ab_aload_n (i := 0) d_M_tellNumber_6 rfl rfl ?_
    refine ab_iload_n (i := 1) d_M_tellNumber_7 rfl rfl ?_
    refine ab_bipush (v := 10) d_M_tellNumber_8 rfl ?_
    refine ab_idiv d_M_tellNumber_10 (by decide) ?_
    obtain ⟨I3, hC, h⟩ := h
    refine ab_callV (me2 := mt_M_tellNumber) (b := mx) (as := [.int (v1 / 10)]) (st := []) (rv := none) (M2 := (I3, L, ab_RR, n, nc, ns)) d_M_tellNumber_11 ce_M_tellNumber v_1857 v_1859 v_122 (by decide) rfl (by decide) hC (Nat.le_refl _) (Nat.le_refl _) hc hs (fun j h9 => by cases h9) (fun _ _ => rfl) ?_
    show ab_E w (d + 1) mt_M_tellNumber 14 [.ref mx, .int v1] [] (I3, L, ab_RR, n, nc, ns) res
    exact h
theorem q_M_tellNumber_14 {w : ab_Wd} {d n nc ns : Nat} {I : Nat → Nat → Int32} {L : Nat → Nat → Int64} {res : ab_Re} (v1 : Int32) (hc : nc ≤ res.2.2.2.2.2.1) (hs : ns ≤ res.2.2.2.2.2.2)
    (h : ∃ (I2 : Nat → Nat → Int32), ab_C w d mt_M_tellByte [.ref mx, .int (48 + (v1 - v1 / 10 * 10))] (I, L, ab_RR, n, nc, ns) (.inl none, (I2, L, ab_RR, n, nc, ns)) ∧ res = (.inl none, (I2, L, ab_RR, n, nc, ns))) : ab_E w (d + 1) mt_M_tellNumber 14 [.ref mx, .int v1] [] (I, L, ab_RR, n, nc, ns) res := by
  refine ab_aload_n (i := 0) d_M_tellNumber_14 rfl rfl ?_
  refine ab_bipush (v := 48) d_M_tellNumber_15 rfl ?_
  refine ab_iload_n (i := 1) d_M_tellNumber_17 rfl rfl ?_
  refine ab_bipush (v := 10) d_M_tellNumber_18 rfl ?_
  refine ab_irem d_M_tellNumber_20 (by decide) ?_
  refine ab_iadd d_M_tellNumber_21 ?_
  obtain ⟨I2, hC, h⟩ := h
  refine ab_callV (me2 := mt_M_tellByte) (b := mx) (as := [.int (48 + (v1 - v1 / 10 * 10))]) (st := []) (rv := none) (M2 := (I2, L, ab_RR, n, nc, ns)) d_M_tellNumber_22 ce_M_tellByte v_1853 v_1855 v_121 (by decide) rfl (by decide) hC (Nat.le_refl _) (Nat.le_refl _) hc hs (fun j h9 => by cases h9) (fun _ _ => rfl) ?_
  show ab_E w (d + 1) mt_M_tellNumber 25 [.ref mx, .int v1] [] (I2, L, ab_RR, n, nc, ns) res
  exact ab_vret d_M_tellNumber_25 rfl h
theorem d_M_told_0 : decode (ab_bc mt_M_told) 0 = .ok (.aload_n 0, 1) := by decide +kernel
theorem d_M_told_1 : decode (ab_bc mt_M_told) 1 = .ok (.iconst 0, 1) := by decide +kernel
theorem d_M_told_2 : decode (ab_bc mt_M_told) 2 = .ok (.putfield 108, 3) := by decide +kernel
theorem d_M_told_5 : decode (ab_bc mt_M_told) 5 = .ok (.aload_n 0, 1) := by decide +kernel
theorem d_M_told_6 : decode (ab_bc mt_M_told) 6 = .ok (.iload_n 1, 1) := by decide +kernel
theorem d_M_told_7 : decode (ab_bc mt_M_told) 7 = .ok (.putfield 391, 3) := by decide +kernel
theorem d_M_told_10 : decode (ab_bc mt_M_told) 10 = .ok (.aload_n 0, 1) := by decide +kernel
theorem d_M_told_11 : decode (ab_bc mt_M_told) 11 = .ok (.iconst (-1), 1) := by decide +kernel
theorem d_M_told_12 : decode (ab_bc mt_M_told) 12 = .ok (.putfield 394, 3) := by decide +kernel
theorem d_M_told_15 : decode (ab_bc mt_M_told) 15 = .ok (.aload_n 0, 1) := by decide +kernel
theorem d_M_told_16 : decode (ab_bc mt_M_told) 16 = .ok (.invokevirtual 413, 3) := by decide +kernel
theorem d_M_told_19 : decode (ab_bc mt_M_told) 19 = .ok (.iload_n 1, 1) := by decide +kernel
theorem d_M_told_20 : decode (ab_bc mt_M_told) 20 = .ok (.iconst (-1), 1) := by decide +kernel
theorem d_M_told_21 : decode (ab_bc mt_M_told) 21 = .ok (.if_icmp .ne 10, 3) := by decide +kernel
theorem d_M_told_24 : decode (ab_bc mt_M_told) 24 = .ok (.aload_n 0, 1) := by decide +kernel
theorem d_M_told_25 : decode (ab_bc mt_M_told) 25 = .ok (.getfield 388, 3) := by decide +kernel
theorem d_M_told_28 : decode (ab_bc mt_M_told) 28 = .ok (.goto 23, 3) := by decide +kernel
theorem d_M_told_31 : decode (ab_bc mt_M_told) 31 = .ok (.aload_n 0, 1) := by decide +kernel
theorem d_M_told_32 : decode (ab_bc mt_M_told) 32 = .ok (.getfield 394, 3) := by decide +kernel
theorem d_M_told_35 : decode (ab_bc mt_M_told) 35 = .ok (.iconst (-1), 1) := by decide +kernel
theorem d_M_told_36 : decode (ab_bc mt_M_told) 36 = .ok (.if_icmp .ne 11, 3) := by decide +kernel
theorem d_M_told_39 : decode (ab_bc mt_M_told) 39 = .ok (.aload_n 0, 1) := by decide +kernel
theorem d_M_told_40 : decode (ab_bc mt_M_told) 40 = .ok (.iconst 1, 1) := by decide +kernel
theorem d_M_told_41 : decode (ab_bc mt_M_told) 41 = .ok (.invokevirtual 202, 3) := by decide +kernel
theorem d_M_told_44 : decode (ab_bc mt_M_told) 44 = .ok (.goto 7, 3) := by decide +kernel
theorem d_M_told_47 : decode (ab_bc mt_M_told) 47 = .ok (.aload_n 0, 1) := by decide +kernel
theorem d_M_told_48 : decode (ab_bc mt_M_told) 48 = .ok (.getfield 394, 3) := by decide +kernel
theorem d_M_told_51 : decode (ab_bc mt_M_told) 51 = .ok (.ireturn, 1) := by decide +kernel
-- CableKeeperModel.told(I)I over mx
theorem q_M_told_0 {w : ab_Wd} {d n nc ns : Nat} {I : Nat → Nat → Int32} {L : Nat → Nat → Int64} {res : ab_Re} (v1 : Int32) (hc : nc ≤ res.2.2.2.2.2.1) (hs : ns ≤ res.2.2.2.2.2.2)
    (h : ∃ (I2 : Nat → Nat → Int32), ab_C w d mt_M_tellAll [.ref mx] ((ab_up (ab_up (ab_up I mx 1 0) mx 37 v1) mx 39 (-1)), L, ab_RR, n, nc, ns) (.inl none, (I2, L, ab_RR, n, nc, ns)) ∧ ((¬ v1 = (-1) → ((¬ (I2 mx 39) = (-1) → (ab_E w (d + 1) mt_M_told 51 [.ref mx, .int v1] [.int (I2 mx 39)] (I2, L, ab_RR, n, nc, ns) res)) ∧ ((I2 mx 39) = (-1) → (∃ (r5 : Int32) (I6 : Nat → Nat → Int32), ab_C w d mt_M_fail [.ref mx, .int 1] (I2, L, ab_RR, n, nc, ns) (.inl (some (.int r5)), (I6, L, ab_RR, n, nc, ns)) ∧ ab_E w (d + 1) mt_M_told 51 [.ref mx, .int v1] [.int r5] (I6, L, ab_RR, n, nc, ns) res)))) ∧ (v1 = (-1) → (ab_E w (d + 1) mt_M_told 51 [.ref mx, .int v1] [.int (I2 mx 38)] (I2, L, ab_RR, n, nc, ns) res)))) : ab_E w (d + 1) mt_M_told 0 [.ref mx, .int v1] [] (I, L, ab_RR, n, nc, ns) res := by
  refine ab_aload_n (i := 0) d_M_told_0 rfl rfl ?_
  refine ab_iconst (v := 0) d_M_told_1 rfl ?_
  refine ab_putI (ci := 11) (k := 1) d_M_told_2 v_1369 rfl (by decide) (by decide) rfl (Or.inl rfl) rfl rfl ?_
  refine ab_aload_n (i := 0) d_M_told_5 rfl rfl ?_
  refine ab_iload_n (i := 1) d_M_told_6 rfl rfl ?_
  refine ab_putI (ci := 11) (k := 37) d_M_told_7 v_1405 rfl (by decide) (by decide) rfl (Or.inl rfl) rfl rfl ?_
  refine ab_aload_n (i := 0) d_M_told_10 rfl rfl ?_
  refine ab_iconst (v := (-1)) d_M_told_11 rfl ?_
  refine ab_putI (ci := 11) (k := 39) d_M_told_12 v_1407 rfl (by decide) (by decide) rfl (Or.inl rfl) rfl rfl ?_
  refine ab_aload_n (i := 0) d_M_told_15 rfl rfl ?_
  obtain ⟨I2, hC, h⟩ := h
  refine ab_callV (me2 := mt_M_tellAll) (b := mx) (as := []) (st := []) (rv := none) (M2 := (I2, L, ab_RR, n, nc, ns)) d_M_told_16 ce_M_tellAll v_1844 v_1846 v_119 (by decide) rfl (by decide) hC (Nat.le_refl _) (Nat.le_refl _) hc hs (fun j h9 => by cases h9) (fun _ _ => rfl) ?_
  show ab_E w (d + 1) mt_M_told 19 [.ref mx, .int v1] [] (I2, L, ab_RR, n, nc, ns) res
  refine ab_iload_n (i := 1) d_M_told_19 rfl rfl ?_
  refine ab_iconst (v := (-1)) d_M_told_20 rfl ?_
  refine ab_icmp_ne (tgt := 31) d_M_told_21 (by decide) (fun c3 => ?_) (fun c3 => ?_)
  · have h := h.1 c3
    refine ab_aload_n (i := 0) d_M_told_31 rfl rfl ?_
    refine ab_getI (ci := 11) (k := 39) d_M_told_32 v_1407 rfl (by decide) (by decide) rfl ?_
    refine ab_iconst (v := (-1)) d_M_told_35 rfl ?_
    refine ab_icmp_ne (tgt := 47) d_M_told_36 (by decide) (fun c4 => ?_) (fun c4 => ?_)
    · have h := h.1 c4
      refine ab_aload_n (i := 0) d_M_told_47 rfl rfl ?_
      refine ab_getI (ci := 11) (k := 39) d_M_told_48 v_1407 rfl (by decide) (by decide) rfl ?_
      exact h
    · have h := h.2 c4
      refine ab_aload_n (i := 0) d_M_told_39 rfl rfl ?_
      refine ab_iconst (v := 1) d_M_told_40 rfl ?_
      obtain ⟨r5, I6, hC, h⟩ := h
      refine ab_callV (me2 := mt_M_fail) (b := mx) (as := [.int 1]) (st := []) (rv := (some (.int r5))) (M2 := (I6, L, ab_RR, n, nc, ns)) d_M_told_41 ce_M_fail v_1562 v_1564 v_66 (by decide) rfl (by decide) hC (Nat.le_refl _) (Nat.le_refl _) hc hs (fun j h9 => by cases h9) (fun _ _ => rfl) ?_
      show ab_E w (d + 1) mt_M_told 44 [.ref mx, .int v1] [.int r5] (I6, L, ab_RR, n, nc, ns) res
      refine ab_goto (tgt := 51) d_M_told_44 (by decide) ?_
      exact h
  · have h := h.2 c3
    refine ab_aload_n (i := 0) d_M_told_24 rfl rfl ?_
    refine ab_getI (ci := 11) (k := 38) d_M_told_25 v_1406 rfl (by decide) (by decide) rfl ?_
    refine ab_goto (tgt := 51) d_M_told_28 (by decide) ?_
    exact h
theorem q_M_told_51 {w : ab_Wd} {d n nc ns : Nat} {I : Nat → Nat → Int32} {L : Nat → Nat → Int64} {res : ab_Re} (v1 : Int32) (s0 : Int32) (hc : nc ≤ res.2.2.2.2.2.1) (hs : ns ≤ res.2.2.2.2.2.2)
    (h : res = (.inl (some (.int s0)), (I, L, ab_RR, n, nc, ns))) : ab_E w (d + 1) mt_M_told 51 [.ref mx, .int v1] [.int s0] (I, L, ab_RR, n, nc, ns) res := by
  exact ab_iret (ty := .int) d_M_told_51 rfl rfl h
theorem d_M_soundOf_0 : decode (ab_bc mt_M_soundOf) 0 = .ok (.iconst 0, 1) := by decide +kernel
theorem d_M_soundOf_1 : decode (ab_bc mt_M_soundOf) 1 = .ok (.istore_n 2, 1) := by decide +kernel
theorem d_M_soundOf_2 : decode (ab_bc mt_M_soundOf) 2 = .ok (.iconst 0, 1) := by decide +kernel
theorem d_M_soundOf_3 : decode (ab_bc mt_M_soundOf) 3 = .ok (.istore_n 3, 1) := by decide +kernel
theorem d_M_soundOf_4 : decode (ab_bc mt_M_soundOf) 4 = .ok (.iload_n 3, 1) := by decide +kernel
theorem d_M_soundOf_5 : decode (ab_bc mt_M_soundOf) 5 = .ok (.aload_n 0, 1) := by decide +kernel
theorem d_M_soundOf_6 : decode (ab_bc mt_M_soundOf) 6 = .ok (.invokevirtual 234, 3) := by decide +kernel
theorem d_M_soundOf_9 : decode (ab_bc mt_M_soundOf) 9 = .ok (.if_icmp .ge 40, 3) := by decide +kernel
theorem d_M_soundOf_12 : decode (ab_bc mt_M_soundOf) 12 = .ok (.iload_n 2, 1) := by decide +kernel
theorem d_M_soundOf_13 : decode (ab_bc mt_M_soundOf) 13 = .ok (.aload_n 0, 1) := by decide +kernel
theorem d_M_soundOf_14 : decode (ab_bc mt_M_soundOf) 14 = .ok (.iload_n 3, 1) := by decide +kernel
theorem d_M_soundOf_15 : decode (ab_bc mt_M_soundOf) 15 = .ok (.invokevirtual 262, 3) := by decide +kernel
theorem d_M_soundOf_18 : decode (ab_bc mt_M_soundOf) 18 = .ok (.ifCond .eq 22, 3) := by decide +kernel
theorem d_M_soundOf_21 : decode (ab_bc mt_M_soundOf) 21 = .ok (.aload_n 0, 1) := by decide +kernel
theorem d_M_soundOf_22 : decode (ab_bc mt_M_soundOf) 22 = .ok (.getfield 24, 3) := by decide +kernel
theorem d_M_soundOf_25 : decode (ab_bc mt_M_soundOf) 25 = .ok (.bipush 75, 2) := by decide +kernel
theorem d_M_soundOf_27 : decode (ab_bc mt_M_soundOf) 27 = .ok (.iload_n 3, 1) := by decide +kernel
theorem d_M_soundOf_28 : decode (ab_bc mt_M_soundOf) 28 = .ok (.iadd, 1) := by decide +kernel
theorem d_M_soundOf_29 : decode (ab_bc mt_M_soundOf) 29 = .ok (.iaload, 1) := by decide +kernel
theorem d_M_soundOf_30 : decode (ab_bc mt_M_soundOf) 30 = .ok (.iload_n 1, 1) := by decide +kernel
theorem d_M_soundOf_31 : decode (ab_bc mt_M_soundOf) 31 = .ok (.if_icmp .ne 9, 3) := by decide +kernel
theorem d_M_soundOf_34 : decode (ab_bc mt_M_soundOf) 34 = .ok (.iconst 1, 1) := by decide +kernel
theorem d_M_soundOf_35 : decode (ab_bc mt_M_soundOf) 35 = .ok (.iload_n 3, 1) := by decide +kernel
theorem d_M_soundOf_36 : decode (ab_bc mt_M_soundOf) 36 = .ok (.ishl, 1) := by decide +kernel
theorem d_M_soundOf_37 : decode (ab_bc mt_M_soundOf) 37 = .ok (.goto 4, 3) := by decide +kernel
theorem d_M_soundOf_40 : decode (ab_bc mt_M_soundOf) 40 = .ok (.iconst 0, 1) := by decide +kernel
theorem d_M_soundOf_41 : decode (ab_bc mt_M_soundOf) 41 = .ok (.ior, 1) := by decide +kernel
theorem d_M_soundOf_42 : decode (ab_bc mt_M_soundOf) 42 = .ok (.istore_n 2, 1) := by decide +kernel
theorem d_M_soundOf_43 : decode (ab_bc mt_M_soundOf) 43 = .ok (.iinc 3 1, 3) := by decide +kernel
theorem d_M_soundOf_46 : decode (ab_bc mt_M_soundOf) 46 = .ok (.goto (-42), 3) := by decide +kernel
theorem d_M_soundOf_49 : decode (ab_bc mt_M_soundOf) 49 = .ok (.iload_n 2, 1) := by decide +kernel
theorem d_M_soundOf_50 : decode (ab_bc mt_M_soundOf) 50 = .ok (.ireturn, 1) := by decide +kernel
-- CableKeeperModel.soundOf(I)I over mx
theorem q_M_soundOf_0 {w : ab_Wd} {d n nc ns : Nat} {I : Nat → Nat → Int32} {L : Nat → Nat → Int64} {res : ab_Re} (v1 : Int32) (hc : nc ≤ res.2.2.2.2.2.1) (hs : ns ≤ res.2.2.2.2.2.2)
    (h : ab_E w (d + 1) mt_M_soundOf 4 [.ref mx, .int v1, .int 0, .int 0] [] (I, L, ab_RR, n, nc, ns) res) : ab_E w (d + 1) mt_M_soundOf 0 [.ref mx, .int v1, .null, .null] [] (I, L, ab_RR, n, nc, ns) res := by
  refine ab_iconst (v := 0) d_M_soundOf_0 rfl ?_
  refine ab_istore_n (i := 2) d_M_soundOf_1 rfl (by decide) (Or.inr rfl) ?_
  refine ab_iconst (v := 0) d_M_soundOf_2 rfl ?_
  refine ab_istore_n (i := 3) d_M_soundOf_3 rfl (by decide) (Or.inr rfl) ?_
  exact h
theorem q_M_soundOf_4 {w : ab_Wd} {d n nc ns : Nat} {I : Nat → Nat → Int32} {L : Nat → Nat → Int64} {res : ab_Re} (v1 : Int32) (v2 : Int32) (v3 : Int32) (hc : nc ≤ res.2.2.2.2.2.1) (hs : ns ≤ res.2.2.2.2.2.2)
    (h : ∃ (r1 : Int32), ab_C w d mt_M_many [.ref mx] (I, L, ab_RR, n, nc, ns) (.inl (some (.int r1)), (I, L, ab_RR, n, nc, ns)) ∧ ((r1 ≤ v3 → (res = (.inl (some (.int v2)), (I, L, ab_RR, n, nc, ns)))) ∧ (¬ r1 ≤ v3 → (∃ (r3 : Int32), ab_C w d mt_M_isSound [.ref mx, .int v3] (I, L, ab_RR, n, nc, ns) (.inl (some (.int r3)), (I, L, ab_RR, n, nc, ns)) ∧ ((r3 = 0 → (ab_E w (d + 1) mt_M_soundOf 40 [.ref mx, .int v1, .int v2, .int v3] [.int v2] (I, L, ab_RR, n, nc, ns) res)) ∧ (¬ r3 = 0 → ((vp_in (75 + v3) 399) ∧ ((¬ (I mx_now (75 + v3).toNatClampNeg) = v1 → (ab_E w (d + 1) mt_M_soundOf 40 [.ref mx, .int v1, .int v2, .int v3] [.int v2] (I, L, ab_RR, n, nc, ns) res)) ∧ ((I mx_now (75 + v3).toNatClampNeg) = v1 → (ab_E w (d + 1) mt_M_soundOf 41 [.ref mx, .int v1, .int v2, .int v3] [.int (1 <<< (v3 &&& 31)), .int v2] (I, L, ab_RR, n, nc, ns) res)))))))))) : ab_E w (d + 1) mt_M_soundOf 4 [.ref mx, .int v1, .int v2, .int v3] [] (I, L, ab_RR, n, nc, ns) res := by
  refine ab_iload_n (i := 3) d_M_soundOf_4 rfl rfl ?_
  refine ab_aload_n (i := 0) d_M_soundOf_5 rfl rfl ?_
  obtain ⟨r1, hC, h⟩ := h
  refine ab_callV (me2 := mt_M_many) (b := mx) (as := []) (st := [.int v3]) (rv := (some (.int r1))) (M2 := (I, L, ab_RR, n, nc, ns)) d_M_soundOf_6 ce_M_many v_1635 v_1637 v_79 (by decide) rfl (by decide) hC (Nat.le_refl _) (Nat.le_refl _) hc hs (fun j h9 => by cases h9) (fun _ _ => rfl) ?_
  show ab_E w (d + 1) mt_M_soundOf 9 [.ref mx, .int v1, .int v2, .int v3] [.int r1, .int v3] (I, L, ab_RR, n, nc, ns) res
  refine ab_icmp_ge (tgt := 49) d_M_soundOf_9 (by decide) (fun c2 => ?_) (fun c2 => ?_)
  · have h := h.1 c2
    refine ab_iload_n (i := 2) d_M_soundOf_49 rfl rfl ?_
    exact ab_iret (ty := .int) d_M_soundOf_50 rfl rfl h
  · have h := h.2 c2
    refine ab_iload_n (i := 2) d_M_soundOf_12 rfl rfl ?_
    refine ab_aload_n (i := 0) d_M_soundOf_13 rfl rfl ?_
    refine ab_iload_n (i := 3) d_M_soundOf_14 rfl rfl ?_
    obtain ⟨r3, hC, h⟩ := h
    refine ab_callV (me2 := mt_M_isSound) (b := mx) (as := [.int v3]) (st := [.int v2]) (rv := (some (.int r3))) (M2 := (I, L, ab_RR, n, nc, ns)) d_M_soundOf_15 ce_M_isSound v_1679 v_1681 v_89 (by decide) rfl (by decide) hC (Nat.le_refl _) (Nat.le_refl _) hc hs (fun j h9 => by cases h9) (fun _ _ => rfl) ?_
    show ab_E w (d + 1) mt_M_soundOf 18 [.ref mx, .int v1, .int v2, .int v3] [.int r3, .int v2] (I, L, ab_RR, n, nc, ns) res
    refine ab_if_eq (tgt := 40) d_M_soundOf_18 (by decide) (fun c4 => ?_) (fun c4 => ?_)
    · have h := h.1 c4
      exact h
    · have h := h.2 c4
      refine ab_aload_n (i := 0) d_M_soundOf_21 rfl rfl ?_
      refine ab_getR (ci := 11) (k := 4) (j := mx_now) d_M_soundOf_22 v_1372 rfl (by decide) (by decide) rfl r_mx_4 ?_
      refine ab_bipush (v := 75) d_M_soundOf_25 rfl ?_
      refine ab_iload_n (i := 3) d_M_soundOf_27 rfl rfl ?_
      refine ab_iadd d_M_soundOf_28 ?_
      have g5 := h.1; have h := h.2
      refine ab_iald d_M_soundOf_29 rfl rfl g5 ?_
      refine ab_iload_n (i := 1) d_M_soundOf_30 rfl rfl ?_
      refine ab_icmp_ne (tgt := 40) d_M_soundOf_31 (by decide) (fun c6 => ?_) (fun c6 => ?_)
      · have h := h.1 c6
        exact h
      · have h := h.2 c6
        refine ab_iconst (v := 1) d_M_soundOf_34 rfl ?_
        refine ab_iload_n (i := 3) d_M_soundOf_35 rfl rfl ?_
        refine ab_ishl d_M_soundOf_36 ?_
        refine ab_goto (tgt := 41) d_M_soundOf_37 (by decide) ?_
        exact h
theorem q_M_soundOf_40 {w : ab_Wd} {d n nc ns : Nat} {I : Nat → Nat → Int32} {L : Nat → Nat → Int64} {res : ab_Re} (v1 : Int32) (v2 : Int32) (v3 : Int32) (s0 : Int32) (hc : nc ≤ res.2.2.2.2.2.1) (hs : ns ≤ res.2.2.2.2.2.2)
    (h : ab_E w (d + 1) mt_M_soundOf 41 [.ref mx, .int v1, .int v2, .int v3] [.int 0, .int s0] (I, L, ab_RR, n, nc, ns) res) : ab_E w (d + 1) mt_M_soundOf 40 [.ref mx, .int v1, .int v2, .int v3] [.int s0] (I, L, ab_RR, n, nc, ns) res := by
  refine ab_iconst (v := 0) d_M_soundOf_40 rfl ?_
  exact h
theorem q_M_soundOf_41 {w : ab_Wd} {d n nc ns : Nat} {I : Nat → Nat → Int32} {L : Nat → Nat → Int64} {res : ab_Re} (v1 : Int32) (v2 : Int32) (v3 : Int32) (s0 : Int32) (s1 : Int32) (hc : nc ≤ res.2.2.2.2.2.1) (hs : ns ≤ res.2.2.2.2.2.2)
    (h : ab_E w (d + 1) mt_M_soundOf 4 [.ref mx, .int v1, .int (s0 ||| s1), .int (v3 + 1)] [] (I, L, ab_RR, n, nc, ns) res) : ab_E w (d + 1) mt_M_soundOf 41 [.ref mx, .int v1, .int v2, .int v3] [.int s1, .int s0] (I, L, ab_RR, n, nc, ns) res := by
  refine ab_ior d_M_soundOf_41 ?_
  refine ab_istore_n (i := 2) d_M_soundOf_42 rfl (by decide) (Or.inr rfl) ?_
  refine ab_iinc (i := 3) (v := (v3 + 1)) d_M_soundOf_43 rfl rfl (by decide) (Or.inr rfl) ?_
  refine ab_goto (tgt := 4) d_M_soundOf_46 (by decide) ?_
  exact h
theorem d_M_pricesOf_0 : decode (ab_bc mt_M_pricesOf) 0 = .ok (.iconst 0, 1) := by decide +kernel
theorem d_M_pricesOf_1 : decode (ab_bc mt_M_pricesOf) 1 = .ok (.istore_n 2, 1) := by decide +kernel
theorem d_M_pricesOf_2 : decode (ab_bc mt_M_pricesOf) 2 = .ok (.iconst 0, 1) := by decide +kernel
theorem d_M_pricesOf_3 : decode (ab_bc mt_M_pricesOf) 3 = .ok (.istore_n 3, 1) := by decide +kernel
theorem d_M_pricesOf_4 : decode (ab_bc mt_M_pricesOf) 4 = .ok (.iload_n 3, 1) := by decide +kernel
theorem d_M_pricesOf_5 : decode (ab_bc mt_M_pricesOf) 5 = .ok (.aload_n 0, 1) := by decide +kernel
theorem d_M_pricesOf_6 : decode (ab_bc mt_M_pricesOf) 6 = .ok (.invokevirtual 234, 3) := by decide +kernel
theorem d_M_pricesOf_9 : decode (ab_bc mt_M_pricesOf) 9 = .ok (.if_icmp .ge 29, 3) := by decide +kernel
theorem d_M_pricesOf_12 : decode (ab_bc mt_M_pricesOf) 12 = .ok (.iload_n 2, 1) := by decide +kernel
theorem d_M_pricesOf_13 : decode (ab_bc mt_M_pricesOf) 13 = .ok (.iload_n 1, 1) := by decide +kernel
theorem d_M_pricesOf_14 : decode (ab_bc mt_M_pricesOf) 14 = .ok (.iload_n 3, 1) := by decide +kernel
theorem d_M_pricesOf_15 : decode (ab_bc mt_M_pricesOf) 15 = .ok (.invokestatic 237, 3) := by decide +kernel
theorem d_M_pricesOf_18 : decode (ab_bc mt_M_pricesOf) 18 = .ok (.ifCond .eq 11, 3) := by decide +kernel
theorem d_M_pricesOf_21 : decode (ab_bc mt_M_pricesOf) 21 = .ok (.aload_n 0, 1) := by decide +kernel
theorem d_M_pricesOf_22 : decode (ab_bc mt_M_pricesOf) 22 = .ok (.iload_n 3, 1) := by decide +kernel
theorem d_M_pricesOf_23 : decode (ab_bc mt_M_pricesOf) 23 = .ok (.invokevirtual 222, 3) := by decide +kernel
theorem d_M_pricesOf_26 : decode (ab_bc mt_M_pricesOf) 26 = .ok (.goto 4, 3) := by decide +kernel
theorem d_M_pricesOf_29 : decode (ab_bc mt_M_pricesOf) 29 = .ok (.iconst 0, 1) := by decide +kernel
theorem d_M_pricesOf_30 : decode (ab_bc mt_M_pricesOf) 30 = .ok (.iadd, 1) := by decide +kernel
theorem d_M_pricesOf_31 : decode (ab_bc mt_M_pricesOf) 31 = .ok (.istore_n 2, 1) := by decide +kernel
theorem d_M_pricesOf_32 : decode (ab_bc mt_M_pricesOf) 32 = .ok (.iinc 3 1, 3) := by decide +kernel
theorem d_M_pricesOf_35 : decode (ab_bc mt_M_pricesOf) 35 = .ok (.goto (-31), 3) := by decide +kernel
theorem d_M_pricesOf_38 : decode (ab_bc mt_M_pricesOf) 38 = .ok (.iload_n 2, 1) := by decide +kernel
theorem d_M_pricesOf_39 : decode (ab_bc mt_M_pricesOf) 39 = .ok (.ireturn, 1) := by decide +kernel
-- CableKeeperModel.pricesOf(I)I over mx
theorem q_M_pricesOf_0 {w : ab_Wd} {d n nc ns : Nat} {I : Nat → Nat → Int32} {L : Nat → Nat → Int64} {res : ab_Re} (v1 : Int32) (hc : nc ≤ res.2.2.2.2.2.1) (hs : ns ≤ res.2.2.2.2.2.2)
    (h : ab_E w (d + 1) mt_M_pricesOf 4 [.ref mx, .int v1, .int 0, .int 0] [] (I, L, ab_RR, n, nc, ns) res) : ab_E w (d + 1) mt_M_pricesOf 0 [.ref mx, .int v1, .null, .null] [] (I, L, ab_RR, n, nc, ns) res := by
  refine ab_iconst (v := 0) d_M_pricesOf_0 rfl ?_
  refine ab_istore_n (i := 2) d_M_pricesOf_1 rfl (by decide) (Or.inr rfl) ?_
  refine ab_iconst (v := 0) d_M_pricesOf_2 rfl ?_
  refine ab_istore_n (i := 3) d_M_pricesOf_3 rfl (by decide) (Or.inr rfl) ?_
  exact h
theorem q_M_pricesOf_4 {w : ab_Wd} {d n nc ns : Nat} {I : Nat → Nat → Int32} {L : Nat → Nat → Int64} {res : ab_Re} (v1 : Int32) (v2 : Int32) (v3 : Int32) (hc : nc ≤ res.2.2.2.2.2.1) (hs : ns ≤ res.2.2.2.2.2.2)
    (h : ∃ (r1 : Int32), ab_C w d mt_M_many [.ref mx] (I, L, ab_RR, n, nc, ns) (.inl (some (.int r1)), (I, L, ab_RR, n, nc, ns)) ∧ ((r1 ≤ v3 → (res = (.inl (some (.int v2)), (I, L, ab_RR, n, nc, ns)))) ∧ (¬ r1 ≤ v3 → (∃ (r3 : Int32), ab_C w d mt_M_has [.int v1, .int v3] (I, L, ab_RR, n, nc, ns) (.inl (some (.int r3)), (I, L, ab_RR, n, nc, ns)) ∧ ((r3 = 0 → (ab_E w (d + 1) mt_M_pricesOf 30 [.ref mx, .int v1, .int v2, .int v3] [.int 0, .int v2] (I, L, ab_RR, n, nc, ns) res)) ∧ (¬ r3 = 0 → (∃ (r5 : Int32), ab_C w d mt_M_priceOf [.ref mx, .int v3] (I, L, ab_RR, n, nc, ns) (.inl (some (.int r5)), (I, L, ab_RR, n, nc, ns)) ∧ ab_E w (d + 1) mt_M_pricesOf 30 [.ref mx, .int v1, .int v2, .int v3] [.int r5, .int v2] (I, L, ab_RR, n, nc, ns) res))))))) : ab_E w (d + 1) mt_M_pricesOf 4 [.ref mx, .int v1, .int v2, .int v3] [] (I, L, ab_RR, n, nc, ns) res := by
  refine ab_iload_n (i := 3) d_M_pricesOf_4 rfl rfl ?_
  refine ab_aload_n (i := 0) d_M_pricesOf_5 rfl rfl ?_
  obtain ⟨r1, hC, h⟩ := h
  refine ab_callV (me2 := mt_M_many) (b := mx) (as := []) (st := [.int v3]) (rv := (some (.int r1))) (M2 := (I, L, ab_RR, n, nc, ns)) d_M_pricesOf_6 ce_M_many v_1635 v_1637 v_79 (by decide) rfl (by decide) hC (Nat.le_refl _) (Nat.le_refl _) hc hs (fun j h9 => by cases h9) (fun _ _ => rfl) ?_
  show ab_E w (d + 1) mt_M_pricesOf 9 [.ref mx, .int v1, .int v2, .int v3] [.int r1, .int v3] (I, L, ab_RR, n, nc, ns) res
  refine ab_icmp_ge (tgt := 38) d_M_pricesOf_9 (by decide) (fun c2 => ?_) (fun c2 => ?_)
  · have h := h.1 c2
    refine ab_iload_n (i := 2) d_M_pricesOf_38 rfl rfl ?_
    exact ab_iret (ty := .int) d_M_pricesOf_39 rfl rfl h
  · have h := h.2 c2
    refine ab_iload_n (i := 2) d_M_pricesOf_12 rfl rfl ?_
    refine ab_iload_n (i := 1) d_M_pricesOf_13 rfl rfl ?_
    refine ab_iload_n (i := 3) d_M_pricesOf_14 rfl rfl ?_
    obtain ⟨r3, hC, h⟩ := h
    refine ab_callS (me2 := mt_M_has) (as := [.int v1, .int v3]) (st := [.int v2]) (rv := (some (.int r3))) (M2 := (I, L, ab_RR, n, nc, ns)) d_M_pricesOf_15 ce_M_has ⟨v_1648, Or.inl v_1647⟩ (by decide) hC (Nat.le_refl _) (Nat.le_refl _) hc hs (fun j h9 => by cases h9) (fun _ _ => rfl) ?_
    show ab_E w (d + 1) mt_M_pricesOf 18 [.ref mx, .int v1, .int v2, .int v3] [.int r3, .int v2] (I, L, ab_RR, n, nc, ns) res
    refine ab_if_eq (tgt := 29) d_M_pricesOf_18 (by decide) (fun c4 => ?_) (fun c4 => ?_)
    · have h := h.1 c4
      refine ab_iconst (v := 0) d_M_pricesOf_29 rfl ?_
      exact h
    · have h := h.2 c4
      refine ab_aload_n (i := 0) d_M_pricesOf_21 rfl rfl ?_
      refine ab_iload_n (i := 3) d_M_pricesOf_22 rfl rfl ?_
      obtain ⟨r5, hC, h⟩ := h
      refine ab_callV (me2 := mt_M_priceOf) (b := mx) (as := [.int v3]) (st := [.int v2]) (rv := (some (.int r5))) (M2 := (I, L, ab_RR, n, nc, ns)) d_M_pricesOf_23 ce_M_priceOf v_1654 v_1656 v_83 (by decide) rfl (by decide) hC (Nat.le_refl _) (Nat.le_refl _) hc hs (fun j h9 => by cases h9) (fun _ _ => rfl) ?_
      show ab_E w (d + 1) mt_M_pricesOf 26 [.ref mx, .int v1, .int v2, .int v3] [.int r5, .int v2] (I, L, ab_RR, n, nc, ns) res
      refine ab_goto (tgt := 30) d_M_pricesOf_26 (by decide) ?_
      exact h
theorem q_M_pricesOf_30 {w : ab_Wd} {d n nc ns : Nat} {I : Nat → Nat → Int32} {L : Nat → Nat → Int64} {res : ab_Re} (v1 : Int32) (v2 : Int32) (v3 : Int32) (s0 : Int32) (s1 : Int32) (hc : nc ≤ res.2.2.2.2.2.1) (hs : ns ≤ res.2.2.2.2.2.2)
    (h : ab_E w (d + 1) mt_M_pricesOf 4 [.ref mx, .int v1, .int (s0 + s1), .int (v3 + 1)] [] (I, L, ab_RR, n, nc, ns) res) : ab_E w (d + 1) mt_M_pricesOf 30 [.ref mx, .int v1, .int v2, .int v3] [.int s1, .int s0] (I, L, ab_RR, n, nc, ns) res := by
  refine ab_iadd d_M_pricesOf_30 ?_
  refine ab_istore_n (i := 2) d_M_pricesOf_31 rfl (by decide) (Or.inr rfl) ?_
  refine ab_iinc (i := 3) (v := (v3 + 1)) d_M_pricesOf_32 rfl rfl (by decide) (Or.inr rfl) ?_
  refine ab_goto (tgt := 4) d_M_pricesOf_35 (by decide) ?_
  exact h
