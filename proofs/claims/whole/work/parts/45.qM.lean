theorem d_M_group_0 : decode (ab_bc mt_M_group) 0 = .ok (.aload_n 0, 1) := by decide +kernel
theorem d_M_group_1 : decode (ab_bc mt_M_group) 1 = .ok (.iconst 0, 1) := by decide +kernel
theorem d_M_group_2 : decode (ab_bc mt_M_group) 2 = .ok (.putfield 108, 3) := by decide +kernel
theorem d_M_group_5 : decode (ab_bc mt_M_group) 5 = .ok (.iload_n 1, 1) := by decide +kernel
theorem d_M_group_6 : decode (ab_bc mt_M_group) 6 = .ok (.iconst 1, 1) := by decide +kernel
theorem d_M_group_7 : decode (ab_bc mt_M_group) 7 = .ok (.aload_n 0, 1) := by decide +kernel
theorem d_M_group_8 : decode (ab_bc mt_M_group) 8 = .ok (.getfield 21, 3) := by decide +kernel
theorem d_M_group_11 : decode (ab_bc mt_M_group) 11 = .ok (.invokestatic 344, 3) := by decide +kernel
theorem d_M_group_14 : decode (ab_bc mt_M_group) 14 = .ok (.ifCond .ne 9, 3) := by decide +kernel
theorem d_M_group_17 : decode (ab_bc mt_M_group) 17 = .ok (.aload_n 0, 1) := by decide +kernel
theorem d_M_group_18 : decode (ab_bc mt_M_group) 18 = .ok (.iconst 1, 1) := by decide +kernel
theorem d_M_group_19 : decode (ab_bc mt_M_group) 19 = .ok (.invokevirtual 202, 3) := by decide +kernel
theorem d_M_group_22 : decode (ab_bc mt_M_group) 22 = .ok (.ireturn, 1) := by decide +kernel
theorem d_M_group_23 : decode (ab_bc mt_M_group) 23 = .ok (.iload_n 2, 1) := by decide +kernel
theorem d_M_group_24 : decode (ab_bc mt_M_group) 24 = .ok (.iconst (-1), 1) := by decide +kernel
theorem d_M_group_25 : decode (ab_bc mt_M_group) 25 = .ok (.if_icmp .eq 17, 3) := by decide +kernel
theorem d_M_group_28 : decode (ab_bc mt_M_group) 28 = .ok (.aload_n 0, 1) := by decide +kernel
theorem d_M_group_29 : decode (ab_bc mt_M_group) 29 = .ok (.iload_n 2, 1) := by decide +kernel
theorem d_M_group_30 : decode (ab_bc mt_M_group) 30 = .ok (.invokevirtual 357, 3) := by decide +kernel
theorem d_M_group_33 : decode (ab_bc mt_M_group) 33 = .ok (.ifCond .ne 9, 3) := by decide +kernel
theorem d_M_group_36 : decode (ab_bc mt_M_group) 36 = .ok (.aload_n 0, 1) := by decide +kernel
theorem d_M_group_37 : decode (ab_bc mt_M_group) 37 = .ok (.iconst 2, 1) := by decide +kernel
theorem d_M_group_38 : decode (ab_bc mt_M_group) 38 = .ok (.invokevirtual 202, 3) := by decide +kernel
theorem d_M_group_41 : decode (ab_bc mt_M_group) 41 = .ok (.ireturn, 1) := by decide +kernel
theorem d_M_group_42 : decode (ab_bc mt_M_group) 42 = .ok (.aload_n 0, 1) := by decide +kernel
theorem d_M_group_43 : decode (ab_bc mt_M_group) 43 = .ok (.iload_n 1, 1) := by decide +kernel
theorem d_M_group_44 : decode (ab_bc mt_M_group) 44 = .ok (.invokevirtual 372, 3) := by decide +kernel
theorem d_M_group_47 : decode (ab_bc mt_M_group) 47 = .ok (.istore_n 3, 1) := by decide +kernel
theorem d_M_group_48 : decode (ab_bc mt_M_group) 48 = .ok (.iload_n 2, 1) := by decide +kernel
theorem d_M_group_49 : decode (ab_bc mt_M_group) 49 = .ok (.iconst (-1), 1) := by decide +kernel
theorem d_M_group_50 : decode (ab_bc mt_M_group) 50 = .ok (.if_icmp .ne 24, 3) := by decide +kernel
theorem d_M_group_53 : decode (ab_bc mt_M_group) 53 = .ok (.aload_n 0, 1) := by decide +kernel
theorem d_M_group_54 : decode (ab_bc mt_M_group) 54 = .ok (.getfield 369, 3) := by decide +kernel
theorem d_M_group_57 : decode (ab_bc mt_M_group) 57 = .ok (.iconst (-1), 1) := by decide +kernel
theorem d_M_group_58 : decode (ab_bc mt_M_group) 58 = .ok (.if_icmp .ne 7, 3) := by decide +kernel
theorem d_M_group_61 : decode (ab_bc mt_M_group) 61 = .ok (.iconst 0, 1) := by decide +kernel
theorem d_M_group_62 : decode (ab_bc mt_M_group) 62 = .ok (.goto 11, 3) := by decide +kernel
theorem d_M_group_65 : decode (ab_bc mt_M_group) 65 = .ok (.aload_n 0, 1) := by decide +kernel
theorem d_M_group_66 : decode (ab_bc mt_M_group) 66 = .ok (.aload_n 0, 1) := by decide +kernel
theorem d_M_group_67 : decode (ab_bc mt_M_group) 67 = .ok (.getfield 369, 3) := by decide +kernel
theorem d_M_group_70 : decode (ab_bc mt_M_group) 70 = .ok (.invokevirtual 222, 3) := by decide +kernel
theorem d_M_group_73 : decode (ab_bc mt_M_group) 73 = .ok (.ireturn, 1) := by decide +kernel
theorem d_M_group_74 : decode (ab_bc mt_M_group) 74 = .ok (.aload_n 0, 1) := by decide +kernel
theorem d_M_group_75 : decode (ab_bc mt_M_group) 75 = .ok (.iload_n 3, 1) := by decide +kernel
theorem d_M_group_76 : decode (ab_bc mt_M_group) 76 = .ok (.invokevirtual 248, 3) := by decide +kernel
theorem d_M_group_79 : decode (ab_bc mt_M_group) 79 = .ok (.istore 4, 2) := by decide +kernel
theorem d_M_group_81 : decode (ab_bc mt_M_group) 81 = .ok (.aload_n 0, 1) := by decide +kernel
theorem d_M_group_82 : decode (ab_bc mt_M_group) 82 = .ok (.getfield 40, 3) := by decide +kernel
theorem d_M_group_85 : decode (ab_bc mt_M_group) 85 = .ok (.iload_n 2, 1) := by decide +kernel
theorem d_M_group_86 : decode (ab_bc mt_M_group) 86 = .ok (.iaload, 1) := by decide +kernel
theorem d_M_group_87 : decode (ab_bc mt_M_group) 87 = .ok (.ireturn, 1) := by decide +kernel
-- CableKeeperModel.group(II)I over mx
theorem q_M_group_0 {w : ab_Wd} {d n nc ns : Nat} {I : Nat → Nat → Int32} {L : Nat → Nat → Int64} {res : ab_Re} (v1 : Int32) (v2 : Int32) (hc : nc ≤ res.2.2.2.2.2.1) (hs : ns ≤ res.2.2.2.2.2.2)
    (h : ∃ (r1 : Int32), ab_C w d mt_M_isIn [.int v1, .int 1, .int (I mx 2)] ((ab_up I mx 1 0), L, ab_RR, n, nc, ns) (.inl (some (.int r1)), ((ab_up I mx 1 0), L, ab_RR, n, nc, ns)) ∧ ((¬ r1 = 0 → ((v2 = (-1) → (ab_E w (d + 1) mt_M_group 42 [.ref mx, .int v1, .int v2, .null, .null] [] ((ab_up I mx 1 0), L, ab_RR, n, nc, ns) res)) ∧ (¬ v2 = (-1) → (∃ (r4 : Int32), ab_C w d mt_M_isSite [.ref mx, .int v2] ((ab_up I mx 1 0), L, ab_RR, n, nc, ns) (.inl (some (.int r4)), ((ab_up I mx 1 0), L, ab_RR, n, nc, ns)) ∧ ((¬ r4 = 0 → (ab_E w (d + 1) mt_M_group 42 [.ref mx, .int v1, .int v2, .null, .null] [] ((ab_up I mx 1 0), L, ab_RR, n, nc, ns) res)) ∧ (r4 = 0 → (∃ (r6 : Int32) (I7 : Nat → Nat → Int32), ab_C w d mt_M_fail [.ref mx, .int 2] ((ab_up I mx 1 0), L, ab_RR, n, nc, ns) (.inl (some (.int r6)), (I7, L, ab_RR, n, nc, ns)) ∧ res = (.inl (some (.int r6)), (I7, L, ab_RR, n, nc, ns))))))))) ∧ (r1 = 0 → (∃ (r8 : Int32) (I9 : Nat → Nat → Int32), ab_C w d mt_M_fail [.ref mx, .int 1] ((ab_up I mx 1 0), L, ab_RR, n, nc, ns) (.inl (some (.int r8)), (I9, L, ab_RR, n, nc, ns)) ∧ res = (.inl (some (.int r8)), (I9, L, ab_RR, n, nc, ns)))))) : ab_E w (d + 1) mt_M_group 0 [.ref mx, .int v1, .int v2, .null, .null] [] (I, L, ab_RR, n, nc, ns) res := by
  refine ab_aload_n (i := 0) d_M_group_0 rfl rfl ?_
  refine ab_iconst (v := 0) d_M_group_1 rfl ?_
  refine ab_putI (ci := 11) (k := 1) d_M_group_2 v_1369 rfl (by decide) (by decide) rfl (Or.inl rfl) rfl rfl ?_
  refine ab_iload_n (i := 1) d_M_group_5 rfl rfl ?_
  refine ab_iconst (v := 1) d_M_group_6 rfl ?_
  refine ab_aload_n (i := 0) d_M_group_7 rfl rfl ?_
  refine ab_getI (ci := 11) (k := 2) d_M_group_8 v_1370 rfl (by decide) (by decide) rfl ?_
  obtain ⟨r1, hC, h⟩ := h
  refine ab_callS (me2 := mt_M_isIn) (as := [.int v1, .int 1, .int (I mx 2)]) (st := []) (rv := (some (.int r1))) (M2 := ((ab_up I mx 1 0), L, ab_RR, n, nc, ns)) d_M_group_11 ce_M_isIn ⟨v_1753, Or.inl v_1752⟩ (Nat.le_of_ble_eq_true rfl) hC (Nat.le_refl _) (Nat.le_refl _) hc hs (fun j h9 => by cases h9) (fun _ _ => rfl) ?_
  show ab_E w (d + 1) mt_M_group 14 [.ref mx, .int v1, .int v2, .null, .null] [.int r1] ((ab_up I mx 1 0), L, ab_RR, n, nc, ns) res
  refine ab_if_ne (tgt := 23) d_M_group_14 (by decide) (fun c2 => ?_) (fun c2 => ?_)
  · have h := h.1 c2
    refine ab_iload_n (i := 2) d_M_group_23 rfl rfl ?_
    refine ab_iconst (v := (-1)) d_M_group_24 rfl ?_
    refine ab_icmp_eq (tgt := 42) d_M_group_25 (by decide) (fun c3 => ?_) (fun c3 => ?_)
    · have h := h.1 c3
      exact h
    · have h := h.2 c3
      refine ab_aload_n (i := 0) d_M_group_28 rfl rfl ?_
      refine ab_iload_n (i := 2) d_M_group_29 rfl rfl ?_
      obtain ⟨r4, hC, h⟩ := h
      refine ab_callV (me2 := mt_M_isSite) (b := mx) (as := [.int v2]) (st := []) (rv := (some (.int r4))) (M2 := ((ab_up I mx 1 0), L, ab_RR, n, nc, ns)) d_M_group_30 ce_M_isSite v_1783 v_1785 v_110 (by decide) rfl (Nat.le_of_ble_eq_true rfl) hC (Nat.le_refl _) (Nat.le_refl _) hc hs (fun j h9 => by cases h9) (fun _ _ => rfl) ?_
      show ab_E w (d + 1) mt_M_group 33 [.ref mx, .int v1, .int v2, .null, .null] [.int r4] ((ab_up I mx 1 0), L, ab_RR, n, nc, ns) res
      refine ab_if_ne (tgt := 42) d_M_group_33 (by decide) (fun c5 => ?_) (fun c5 => ?_)
      · have h := h.1 c5
        exact h
      · have h := h.2 c5
        refine ab_aload_n (i := 0) d_M_group_36 rfl rfl ?_
        refine ab_iconst (v := 2) d_M_group_37 rfl ?_
        obtain ⟨r6, I7, hC, h⟩ := h
        refine ab_callV (me2 := mt_M_fail) (b := mx) (as := [.int 2]) (st := []) (rv := (some (.int r6))) (M2 := (I7, L, ab_RR, n, nc, ns)) d_M_group_38 ce_M_fail v_1562 v_1564 v_66 (by decide) rfl (Nat.le_of_ble_eq_true rfl) hC (Nat.le_refl _) (Nat.le_refl _) hc hs (fun j h9 => by cases h9) (fun _ _ => rfl) ?_
        show ab_E w (d + 1) mt_M_group 41 [.ref mx, .int v1, .int v2, .null, .null] [.int r6] (I7, L, ab_RR, n, nc, ns) res
        exact ab_iret (ty := .int) d_M_group_41 rfl rfl h
  · have h := h.2 c2
    refine ab_aload_n (i := 0) d_M_group_17 rfl rfl ?_
    refine ab_iconst (v := 1) d_M_group_18 rfl ?_
    obtain ⟨r8, I9, hC, h⟩ := h
    refine ab_callV (me2 := mt_M_fail) (b := mx) (as := [.int 1]) (st := []) (rv := (some (.int r8))) (M2 := (I9, L, ab_RR, n, nc, ns)) d_M_group_19 ce_M_fail v_1562 v_1564 v_66 (by decide) rfl (Nat.le_of_ble_eq_true rfl) hC (Nat.le_refl _) (Nat.le_refl _) hc hs (fun j h9 => by cases h9) (fun _ _ => rfl) ?_
    show ab_E w (d + 1) mt_M_group 22 [.ref mx, .int v1, .int v2, .null, .null] [.int r8] (I9, L, ab_RR, n, nc, ns) res
    exact ab_iret (ty := .int) d_M_group_22 rfl rfl h
theorem q_M_group_42 {w : ab_Wd} {d n nc ns : Nat} {I : Nat → Nat → Int32} {L : Nat → Nat → Int64} {res : ab_Re} (v1 : Int32) (v2 : Int32) (hc : nc ≤ res.2.2.2.2.2.1) (hs : ns ≤ res.2.2.2.2.2.2)
    (h : ∃ (r1 : Int32) (I2 : Nat → Nat → Int32), ab_C w d mt_M_leftFor [.ref mx, .int v1] (I, L, ab_RR, n, nc, ns) (.inl (some (.int r1)), (I2, L, ab_RR, n, nc, ns)) ∧ ((¬ v2 = (-1) → (∃ (r4 : Int32) (I5 : Nat → Nat → Int32), ab_C w d mt_M_netOf [.ref mx, .int r1] (I2, L, ab_RR, n, nc, ns) (.inl (some (.int r4)), (I5, L, ab_RR, n, nc, ns)) ∧ (vp_in v2 10) ∧ res = (.inl (some (.int (I5 mx_piece v2.toNatClampNeg))), (I5, L, ab_RR, n, nc, ns)))) ∧ (v2 = (-1) → ((¬ (I2 mx 33) = (-1) → (∃ (r8 : Int32), ab_C w d mt_M_priceOf [.ref mx, .int (I2 mx 33)] (I2, L, ab_RR, n, nc, ns) (.inl (some (.int r8)), (I2, L, ab_RR, n, nc, ns)) ∧ ab_E w (d + 1) mt_M_group 73 [.ref mx, .int v1, .int v2, .int r1, .null] [.int r8] (I2, L, ab_RR, n, nc, ns) res)) ∧ ((I2 mx 33) = (-1) → (ab_E w (d + 1) mt_M_group 73 [.ref mx, .int v1, .int v2, .int r1, .null] [.int 0] (I2, L, ab_RR, n, nc, ns) res)))))) : ab_E w (d + 1) mt_M_group 42 [.ref mx, .int v1, .int v2, .null, .null] [] (I, L, ab_RR, n, nc, ns) res := by
  refine ab_aload_n (i := 0) d_M_group_42 rfl rfl ?_
  refine ab_iload_n (i := 1) d_M_group_43 rfl rfl ?_
  obtain ⟨r1, I2, hC, h⟩ := h
  refine ab_callV (me2 := mt_M_leftFor) (b := mx) (as := [.int v1]) (st := []) (rv := (some (.int r1))) (M2 := (I2, L, ab_RR, n, nc, ns)) d_M_group_44 ce_M_leftFor v_1815 v_1817 v_115 (by decide) rfl (Nat.le_of_ble_eq_true rfl) hC (Nat.le_refl _) (Nat.le_refl _) hc hs (fun j h9 => by cases h9) (fun _ _ => rfl) ?_
  show ab_E w (d + 1) mt_M_group 47 [.ref mx, .int v1, .int v2, .null, .null] [.int r1] (I2, L, ab_RR, n, nc, ns) res
  refine ab_istore_n (i := 3) d_M_group_47 rfl (by decide) (Or.inr rfl) ?_
  refine ab_iload_n (i := 2) d_M_group_48 rfl rfl ?_
  refine ab_iconst (v := (-1)) d_M_group_49 rfl ?_
  refine ab_icmp_ne (tgt := 74) d_M_group_50 (by decide) (fun c3 => ?_) (fun c3 => ?_)
  · have h := h.1 c3
    refine ab_aload_n (i := 0) d_M_group_74 rfl rfl ?_
    refine ab_iload_n (i := 3) d_M_group_75 rfl rfl ?_
    obtain ⟨r4, I5, hC, h⟩ := h
    refine ab_callV (me2 := mt_M_netOf) (b := mx) (as := [.int r1]) (st := []) (rv := (some (.int r4))) (M2 := (I5, L, ab_RR, n, nc, ns)) d_M_group_76 ce_M_netOf v_1643 v_1645 v_81 (by decide) rfl (Nat.le_of_ble_eq_true rfl) hC (Nat.le_refl _) (Nat.le_refl _) hc hs (fun j h9 => by cases h9) (fun _ _ => rfl) ?_
    show ab_E w (d + 1) mt_M_group 79 [.ref mx, .int v1, .int v2, .int r1, .null] [.int r4] (I5, L, ab_RR, n, nc, ns) res
    refine ab_istore (i := 4) d_M_group_79 (by decide) (Or.inr rfl) ?_
    refine ab_aload_n (i := 0) d_M_group_81 rfl rfl ?_
    refine ab_getR (ci := 11) (k := 19) (j := mx_piece) d_M_group_82 v_1387 rfl (by decide) (by decide) rfl r_mx_19 ?_
    refine ab_iload_n (i := 2) d_M_group_85 rfl rfl ?_
    have g6 := h.1; have h := h.2
    refine ab_iald d_M_group_86 rfl rfl g6 ?_
    exact ab_iret (ty := .int) d_M_group_87 rfl rfl h
  · have h := h.2 c3
    refine ab_aload_n (i := 0) d_M_group_53 rfl rfl ?_
    refine ab_getI (ci := 11) (k := 33) d_M_group_54 v_1401 rfl (by decide) (by decide) rfl ?_
    refine ab_iconst (v := (-1)) d_M_group_57 rfl ?_
    refine ab_icmp_ne (tgt := 65) d_M_group_58 (by decide) (fun c7 => ?_) (fun c7 => ?_)
    · have h := h.1 c7
      refine ab_aload_n (i := 0) d_M_group_65 rfl rfl ?_
      refine ab_aload_n (i := 0) d_M_group_66 rfl rfl ?_
      refine ab_getI (ci := 11) (k := 33) d_M_group_67 v_1401 rfl (by decide) (by decide) rfl ?_
      obtain ⟨r8, hC, h⟩ := h
      refine ab_callV (me2 := mt_M_priceOf) (b := mx) (as := [.int (I2 mx 33)]) (st := []) (rv := (some (.int r8))) (M2 := (I2, L, ab_RR, n, nc, ns)) d_M_group_70 ce_M_priceOf v_1654 v_1656 v_83 (by decide) rfl (Nat.le_of_ble_eq_true rfl) hC (Nat.le_refl _) (Nat.le_refl _) hc hs (fun j h9 => by cases h9) (fun _ _ => rfl) ?_
      show ab_E w (d + 1) mt_M_group 73 [.ref mx, .int v1, .int v2, .int r1, .null] [.int r8] (I2, L, ab_RR, n, nc, ns) res
      exact h
    · have h := h.2 c7
      refine ab_iconst (v := 0) d_M_group_61 rfl ?_
      refine ab_goto (tgt := 73) d_M_group_62 (by decide) ?_
      exact h
theorem q_M_group_73 {w : ab_Wd} {d n nc ns : Nat} {I : Nat → Nat → Int32} {L : Nat → Nat → Int64} {res : ab_Re} (v1 : Int32) (v2 : Int32) (v3 : Int32) (s0 : Int32) (hc : nc ≤ res.2.2.2.2.2.1) (hs : ns ≤ res.2.2.2.2.2.2)
    (h : res = (.inl (some (.int s0)), (I, L, ab_RR, n, nc, ns))) : ab_E w (d + 1) mt_M_group 73 [.ref mx, .int v1, .int v2, .int v3, .null] [.int s0] (I, L, ab_RR, n, nc, ns) res := by
  exact ab_iret (ty := .int) d_M_group_73 rfl rfl h
theorem d_M_without_0 : decode (ab_bc mt_M_without) 0 = .ok (.aload_n 0, 1) := by decide +kernel
theorem d_M_without_1 : decode (ab_bc mt_M_without) 1 = .ok (.iconst 0, 1) := by decide +kernel
theorem d_M_without_2 : decode (ab_bc mt_M_without) 2 = .ok (.putfield 108, 3) := by decide +kernel
theorem d_M_without_5 : decode (ab_bc mt_M_without) 5 = .ok (.aload_n 0, 1) := by decide +kernel
theorem d_M_without_6 : decode (ab_bc mt_M_without) 6 = .ok (.iload_n 1, 1) := by decide +kernel
theorem d_M_without_7 : decode (ab_bc mt_M_without) 7 = .ok (.invokevirtual 357, 3) := by decide +kernel
theorem d_M_without_10 : decode (ab_bc mt_M_without) 10 = .ok (.ifCond .eq 12, 3) := by decide +kernel
theorem d_M_without_13 : decode (ab_bc mt_M_without) 13 = .ok (.iload_n 2, 1) := by decide +kernel
theorem d_M_without_14 : decode (ab_bc mt_M_without) 14 = .ok (.iconst 0, 1) := by decide +kernel
theorem d_M_without_15 : decode (ab_bc mt_M_without) 15 = .ok (.iconst 1, 1) := by decide +kernel
theorem d_M_without_16 : decode (ab_bc mt_M_without) 16 = .ok (.invokestatic 344, 3) := by decide +kernel
theorem d_M_without_19 : decode (ab_bc mt_M_without) 19 = .ok (.ifCond .ne 9, 3) := by decide +kernel
theorem d_M_without_22 : decode (ab_bc mt_M_without) 22 = .ok (.aload_n 0, 1) := by decide +kernel
theorem d_M_without_23 : decode (ab_bc mt_M_without) 23 = .ok (.iconst 1, 1) := by decide +kernel
theorem d_M_without_24 : decode (ab_bc mt_M_without) 24 = .ok (.invokevirtual 202, 3) := by decide +kernel
theorem d_M_without_27 : decode (ab_bc mt_M_without) 27 = .ok (.ireturn, 1) := by decide +kernel
theorem d_M_without_28 : decode (ab_bc mt_M_without) 28 = .ok (.aload_n 0, 1) := by decide +kernel
theorem d_M_without_29 : decode (ab_bc mt_M_without) 29 = .ok (.getfield 24, 3) := by decide +kernel
theorem d_M_without_32 : decode (ab_bc mt_M_without) 32 = .ok (.iconst 1, 1) := by decide +kernel
theorem d_M_without_33 : decode (ab_bc mt_M_without) 33 = .ok (.iaload, 1) := by decide +kernel
theorem d_M_without_34 : decode (ab_bc mt_M_without) 34 = .ok (.istore_n 3, 1) := by decide +kernel
theorem d_M_without_35 : decode (ab_bc mt_M_without) 35 = .ok (.iconst 0, 1) := by decide +kernel
theorem d_M_without_36 : decode (ab_bc mt_M_without) 36 = .ok (.istore 4, 2) := by decide +kernel
theorem d_M_without_38 : decode (ab_bc mt_M_without) 38 = .ok (.iload 4, 2) := by decide +kernel
theorem d_M_without_40 : decode (ab_bc mt_M_without) 40 = .ok (.aload_n 0, 1) := by decide +kernel
theorem d_M_without_41 : decode (ab_bc mt_M_without) 41 = .ok (.invokevirtual 234, 3) := by decide +kernel
theorem d_M_without_44 : decode (ab_bc mt_M_without) 44 = .ok (.if_icmp .ge 29, 3) := by decide +kernel
theorem d_M_without_47 : decode (ab_bc mt_M_without) 47 = .ok (.aload_n 0, 1) := by decide +kernel
theorem d_M_without_48 : decode (ab_bc mt_M_without) 48 = .ok (.iload 4, 2) := by decide +kernel
theorem d_M_without_50 : decode (ab_bc mt_M_without) 50 = .ok (.iload_n 1, 1) := by decide +kernel
theorem d_M_without_51 : decode (ab_bc mt_M_without) 51 = .ok (.invokevirtual 269, 3) := by decide +kernel
theorem d_M_without_54 : decode (ab_bc mt_M_without) 54 = .ok (.iconst (-1), 1) := by decide +kernel
theorem d_M_without_55 : decode (ab_bc mt_M_without) 55 = .ok (.if_icmp .eq 12, 3) := by decide +kernel
theorem d_M_without_58 : decode (ab_bc mt_M_without) 58 = .ok (.iload_n 3, 1) := by decide +kernel
theorem d_M_without_59 : decode (ab_bc mt_M_without) 59 = .ok (.iconst 1, 1) := by decide +kernel
theorem d_M_without_60 : decode (ab_bc mt_M_without) 60 = .ok (.iload 4, 2) := by decide +kernel
theorem d_M_without_62 : decode (ab_bc mt_M_without) 62 = .ok (.ishl, 1) := by decide +kernel
theorem d_M_without_63 : decode (ab_bc mt_M_without) 63 = .ok (.iconst (-1), 1) := by decide +kernel
theorem d_M_without_64 : decode (ab_bc mt_M_without) 64 = .ok (.ixor, 1) := by decide +kernel
theorem d_M_without_65 : decode (ab_bc mt_M_without) 65 = .ok (.iand, 1) := by decide +kernel
theorem d_M_without_66 : decode (ab_bc mt_M_without) 66 = .ok (.istore_n 3, 1) := by decide +kernel
theorem d_M_without_67 : decode (ab_bc mt_M_without) 67 = .ok (.iinc 4 1, 3) := by decide +kernel
theorem d_M_without_70 : decode (ab_bc mt_M_without) 70 = .ok (.goto (-32), 3) := by decide +kernel
theorem d_M_without_73 : decode (ab_bc mt_M_without) 73 = .ok (.aload_n 0, 1) := by decide +kernel
theorem d_M_without_74 : decode (ab_bc mt_M_without) 74 = .ok (.iload_n 3, 1) := by decide +kernel
theorem d_M_without_75 : decode (ab_bc mt_M_without) 75 = .ok (.invokevirtual 248, 3) := by decide +kernel
theorem d_M_without_78 : decode (ab_bc mt_M_without) 78 = .ok (.istore 4, 2) := by decide +kernel
theorem d_M_without_80 : decode (ab_bc mt_M_without) 80 = .ok (.iload_n 2, 1) := by decide +kernel
theorem d_M_without_81 : decode (ab_bc mt_M_without) 81 = .ok (.ifCond .ne 10, 3) := by decide +kernel
theorem d_M_without_84 : decode (ab_bc mt_M_without) 84 = .ok (.aload_n 0, 1) := by decide +kernel
theorem d_M_without_85 : decode (ab_bc mt_M_without) 85 = .ok (.getfield 231, 3) := by decide +kernel
theorem d_M_without_88 : decode (ab_bc mt_M_without) 88 = .ok (.goto 9, 3) := by decide +kernel
theorem d_M_without_91 : decode (ab_bc mt_M_without) 91 = .ok (.aload_n 0, 1) := by decide +kernel
theorem d_M_without_92 : decode (ab_bc mt_M_without) 92 = .ok (.invokevirtual 254, 3) := by decide +kernel
theorem d_M_without_95 : decode (ab_bc mt_M_without) 95 = .ok (.iconst 1, 1) := by decide +kernel
theorem d_M_without_96 : decode (ab_bc mt_M_without) 96 = .ok (.isub, 1) := by decide +kernel
theorem d_M_without_97 : decode (ab_bc mt_M_without) 97 = .ok (.ireturn, 1) := by decide +kernel
-- CableKeeperModel.without(II)I over mx
theorem q_M_without_0 {w : ab_Wd} {d n nc ns : Nat} {I : Nat → Nat → Int32} {L : Nat → Nat → Int64} {res : ab_Re} (v1 : Int32) (v2 : Int32) (hc : nc ≤ res.2.2.2.2.2.1) (hs : ns ≤ res.2.2.2.2.2.2)
    (h : ∃ (r1 : Int32), ab_C w d mt_M_isSite [.ref mx, .int v1] ((ab_up I mx 1 0), L, ab_RR, n, nc, ns) (.inl (some (.int r1)), ((ab_up I mx 1 0), L, ab_RR, n, nc, ns)) ∧ ((r1 = 0 → (ab_E w (d + 1) mt_M_without 22 [.ref mx, .int v1, .int v2, .null, .null] [] ((ab_up I mx 1 0), L, ab_RR, n, nc, ns) res)) ∧ (¬ r1 = 0 → (∃ (r3 : Int32), ab_C w d mt_M_isIn [.int v2, .int 0, .int 1] ((ab_up I mx 1 0), L, ab_RR, n, nc, ns) (.inl (some (.int r3)), ((ab_up I mx 1 0), L, ab_RR, n, nc, ns)) ∧ ((¬ r3 = 0 → (ab_E w (d + 1) mt_M_without 38 [.ref mx, .int v1, .int v2, .int (I mx_now 1), .int 0] [] ((ab_up I mx 1 0), L, ab_RR, n, nc, ns) res)) ∧ (r3 = 0 → (ab_E w (d + 1) mt_M_without 22 [.ref mx, .int v1, .int v2, .null, .null] [] ((ab_up I mx 1 0), L, ab_RR, n, nc, ns) res))))))) : ab_E w (d + 1) mt_M_without 0 [.ref mx, .int v1, .int v2, .null, .null] [] (I, L, ab_RR, n, nc, ns) res := by
  refine ab_aload_n (i := 0) d_M_without_0 rfl rfl ?_
  refine ab_iconst (v := 0) d_M_without_1 rfl ?_
  refine ab_putI (ci := 11) (k := 1) d_M_without_2 v_1369 rfl (by decide) (by decide) rfl (Or.inl rfl) rfl rfl ?_
  refine ab_aload_n (i := 0) d_M_without_5 rfl rfl ?_
  refine ab_iload_n (i := 1) d_M_without_6 rfl rfl ?_
  obtain ⟨r1, hC, h⟩ := h
  refine ab_callV (me2 := mt_M_isSite) (b := mx) (as := [.int v1]) (st := []) (rv := (some (.int r1))) (M2 := ((ab_up I mx 1 0), L, ab_RR, n, nc, ns)) d_M_without_7 ce_M_isSite v_1783 v_1785 v_110 (by decide) rfl (Nat.le_of_ble_eq_true rfl) hC (Nat.le_refl _) (Nat.le_refl _) hc hs (fun j h9 => by cases h9) (fun _ _ => rfl) ?_
  show ab_E w (d + 1) mt_M_without 10 [.ref mx, .int v1, .int v2, .null, .null] [.int r1] ((ab_up I mx 1 0), L, ab_RR, n, nc, ns) res
  refine ab_if_eq (tgt := 22) d_M_without_10 (by decide) (fun c2 => ?_) (fun c2 => ?_)
  · have h := h.1 c2
    exact h
  · have h := h.2 c2
    refine ab_iload_n (i := 2) d_M_without_13 rfl rfl ?_
    refine ab_iconst (v := 0) d_M_without_14 rfl ?_
    refine ab_iconst (v := 1) d_M_without_15 rfl ?_
    obtain ⟨r3, hC, h⟩ := h
    refine ab_callS (me2 := mt_M_isIn) (as := [.int v2, .int 0, .int 1]) (st := []) (rv := (some (.int r3))) (M2 := ((ab_up I mx 1 0), L, ab_RR, n, nc, ns)) d_M_without_16 ce_M_isIn ⟨v_1753, Or.inl v_1752⟩ (Nat.le_of_ble_eq_true rfl) hC (Nat.le_refl _) (Nat.le_refl _) hc hs (fun j h9 => by cases h9) (fun _ _ => rfl) ?_
    show ab_E w (d + 1) mt_M_without 19 [.ref mx, .int v1, .int v2, .null, .null] [.int r3] ((ab_up I mx 1 0), L, ab_RR, n, nc, ns) res
    refine ab_if_ne (tgt := 28) d_M_without_19 (by decide) (fun c4 => ?_) (fun c4 => ?_)
    · have h := h.1 c4
      refine ab_aload_n (i := 0) d_M_without_28 rfl rfl ?_
      refine ab_getR (ci := 11) (k := 4) (j := mx_now) d_M_without_29 v_1372 rfl (by decide) (by decide) rfl r_mx_4 ?_
      refine ab_iconst (v := 1) d_M_without_32 rfl ?_
      refine ab_iald d_M_without_33 rfl rfl (by unfold vp_in; decide) ?_
      refine ab_istore_n (i := 3) d_M_without_34 rfl (by decide) (Or.inr rfl) ?_
      refine ab_iconst (v := 0) d_M_without_35 rfl ?_
      refine ab_istore (i := 4) d_M_without_36 (by decide) (Or.inr rfl) ?_
      exact h
    · have h := h.2 c4
      exact h
theorem q_M_without_22 {w : ab_Wd} {d n nc ns : Nat} {I : Nat → Nat → Int32} {L : Nat → Nat → Int64} {res : ab_Re} (v1 : Int32) (v2 : Int32) (hc : nc ≤ res.2.2.2.2.2.1) (hs : ns ≤ res.2.2.2.2.2.2)
    (h : ∃ (r1 : Int32) (I2 : Nat → Nat → Int32), ab_C w d mt_M_fail [.ref mx, .int 1] (I, L, ab_RR, n, nc, ns) (.inl (some (.int r1)), (I2, L, ab_RR, n, nc, ns)) ∧ res = (.inl (some (.int r1)), (I2, L, ab_RR, n, nc, ns))) : ab_E w (d + 1) mt_M_without 22 [.ref mx, .int v1, .int v2, .null, .null] [] (I, L, ab_RR, n, nc, ns) res := by
  refine ab_aload_n (i := 0) d_M_without_22 rfl rfl ?_
  refine ab_iconst (v := 1) d_M_without_23 rfl ?_
  obtain ⟨r1, I2, hC, h⟩ := h
  refine ab_callV (me2 := mt_M_fail) (b := mx) (as := [.int 1]) (st := []) (rv := (some (.int r1))) (M2 := (I2, L, ab_RR, n, nc, ns)) d_M_without_24 ce_M_fail v_1562 v_1564 v_66 (by decide) rfl (Nat.le_of_ble_eq_true rfl) hC (Nat.le_refl _) (Nat.le_refl _) hc hs (fun j h9 => by cases h9) (fun _ _ => rfl) ?_
  show ab_E w (d + 1) mt_M_without 27 [.ref mx, .int v1, .int v2, .null, .null] [.int r1] (I2, L, ab_RR, n, nc, ns) res
  exact ab_iret (ty := .int) d_M_without_27 rfl rfl h
theorem q_M_without_38 {w : ab_Wd} {d n nc ns : Nat} {I : Nat → Nat → Int32} {L : Nat → Nat → Int64} {res : ab_Re} (v1 : Int32) (v2 : Int32) (v3 : Int32) (v4 : Int32) (hc : nc ≤ res.2.2.2.2.2.1) (hs : ns ≤ res.2.2.2.2.2.2)
    (h : ∃ (r1 : Int32), ab_C w d mt_M_many [.ref mx] (I, L, ab_RR, n, nc, ns) (.inl (some (.int r1)), (I, L, ab_RR, n, nc, ns)) ∧ ((r1 ≤ v4 → (∃ (r3 : Int32) (I4 : Nat → Nat → Int32), ab_C w d mt_M_netOf [.ref mx, .int v3] (I, L, ab_RR, n, nc, ns) (.inl (some (.int r3)), (I4, L, ab_RR, n, nc, ns)) ∧ ((¬ v2 = 0 → (∃ (r6 : Int32), ab_C w d mt_M_pieces [.ref mx] (I4, L, ab_RR, n, nc, ns) (.inl (some (.int r6)), (I4, L, ab_RR, n, nc, ns)) ∧ ab_E w (d + 1) mt_M_without 97 [.ref mx, .int v1, .int v2, .int v3, .int r3] [.int (r6 - 1)] (I4, L, ab_RR, n, nc, ns) res)) ∧ (v2 = 0 → (ab_E w (d + 1) mt_M_without 97 [.ref mx, .int v1, .int v2, .int v3, .int r3] [.int (I4 mx 22)] (I4, L, ab_RR, n, nc, ns) res))))) ∧ (¬ r1 ≤ v4 → (∃ (r7 : Int32), ab_C w d mt_M_otherEnd [.ref mx, .int v4, .int v1] (I, L, ab_RR, n, nc, ns) (.inl (some (.int r7)), (I, L, ab_RR, n, nc, ns)) ∧ ((r7 = (-1) → (ab_E w (d + 1) mt_M_without 67 [.ref mx, .int v1, .int v2, .int v3, .int v4] [] (I, L, ab_RR, n, nc, ns) res)) ∧ (¬ r7 = (-1) → (ab_E w (d + 1) mt_M_without 67 [.ref mx, .int v1, .int v2, .int (v3 &&& (((1 : Int32) <<< (v4 &&& 31)) ^^^ (-1))), .int v4] [] (I, L, ab_RR, n, nc, ns) res))))))) : ab_E w (d + 1) mt_M_without 38 [.ref mx, .int v1, .int v2, .int v3, .int v4] [] (I, L, ab_RR, n, nc, ns) res := by
  refine ab_iload (i := 4) d_M_without_38 rfl ?_
  refine ab_aload_n (i := 0) d_M_without_40 rfl rfl ?_
  obtain ⟨r1, hC, h⟩ := h
  refine ab_callV (me2 := mt_M_many) (b := mx) (as := []) (st := [.int v4]) (rv := (some (.int r1))) (M2 := (I, L, ab_RR, n, nc, ns)) d_M_without_41 ce_M_many v_1635 v_1637 v_79 (by decide) rfl (Nat.le_of_ble_eq_true rfl) hC (Nat.le_refl _) (Nat.le_refl _) hc hs (fun j h9 => by cases h9) (fun _ _ => rfl) ?_
  show ab_E w (d + 1) mt_M_without 44 [.ref mx, .int v1, .int v2, .int v3, .int v4] [.int r1, .int v4] (I, L, ab_RR, n, nc, ns) res
  refine ab_icmp_ge (tgt := 73) d_M_without_44 (by decide) (fun c2 => ?_) (fun c2 => ?_)
  · have h := h.1 c2
    refine ab_aload_n (i := 0) d_M_without_73 rfl rfl ?_
    refine ab_iload_n (i := 3) d_M_without_74 rfl rfl ?_
    obtain ⟨r3, I4, hC, h⟩ := h
    refine ab_callV (me2 := mt_M_netOf) (b := mx) (as := [.int v3]) (st := []) (rv := (some (.int r3))) (M2 := (I4, L, ab_RR, n, nc, ns)) d_M_without_75 ce_M_netOf v_1643 v_1645 v_81 (by decide) rfl (Nat.le_of_ble_eq_true rfl) hC (Nat.le_refl _) (Nat.le_refl _) hc hs (fun j h9 => by cases h9) (fun _ _ => rfl) ?_
    show ab_E w (d + 1) mt_M_without 78 [.ref mx, .int v1, .int v2, .int v3, .int v4] [.int r3] (I4, L, ab_RR, n, nc, ns) res
    refine ab_istore (i := 4) d_M_without_78 (by decide) (Or.inr rfl) ?_
    refine ab_iload_n (i := 2) d_M_without_80 rfl rfl ?_
    refine ab_if_ne (tgt := 91) d_M_without_81 (by decide) (fun c5 => ?_) (fun c5 => ?_)
    · have h := h.1 c5
      refine ab_aload_n (i := 0) d_M_without_91 rfl rfl ?_
      obtain ⟨r6, hC, h⟩ := h
      refine ab_callV (me2 := mt_M_pieces) (b := mx) (as := []) (st := []) (rv := (some (.int r6))) (M2 := (I4, L, ab_RR, n, nc, ns)) d_M_without_92 ce_M_pieces v_1671 v_1673 v_87 (by decide) rfl (Nat.le_of_ble_eq_true rfl) hC (Nat.le_refl _) (Nat.le_refl _) hc hs (fun j h9 => by cases h9) (fun _ _ => rfl) ?_
      show ab_E w (d + 1) mt_M_without 95 [.ref mx, .int v1, .int v2, .int v3, .int r3] [.int r6] (I4, L, ab_RR, n, nc, ns) res
      refine ab_iconst (v := 1) d_M_without_95 rfl ?_
      refine ab_isub d_M_without_96 ?_
      exact h
    · have h := h.2 c5
      refine ab_aload_n (i := 0) d_M_without_84 rfl rfl ?_
      refine ab_getI (ci := 11) (k := 22) d_M_without_85 v_1390 rfl (by decide) (by decide) rfl ?_
      refine ab_goto (tgt := 97) d_M_without_88 (by decide) ?_
      exact h
  · have h := h.2 c2
    refine ab_aload_n (i := 0) d_M_without_47 rfl rfl ?_
    refine ab_iload (i := 4) d_M_without_48 rfl ?_
    refine ab_iload_n (i := 1) d_M_without_50 rfl rfl ?_
    obtain ⟨r7, hC, h⟩ := h
    refine ab_callV (me2 := mt_M_otherEnd) (b := mx) (as := [.int v4, .int v1]) (st := []) (rv := (some (.int r7))) (M2 := (I, L, ab_RR, n, nc, ns)) d_M_without_51 ce_M_otherEnd v_1691 v_1693 v_92 (by decide) rfl (Nat.le_of_ble_eq_true rfl) hC (Nat.le_refl _) (Nat.le_refl _) hc hs (fun j h9 => by cases h9) (fun _ _ => rfl) ?_
    show ab_E w (d + 1) mt_M_without 54 [.ref mx, .int v1, .int v2, .int v3, .int v4] [.int r7] (I, L, ab_RR, n, nc, ns) res
    refine ab_iconst (v := (-1)) d_M_without_54 rfl ?_
    refine ab_icmp_eq (tgt := 67) d_M_without_55 (by decide) (fun c8 => ?_) (fun c8 => ?_)
    · have h := h.1 c8
      exact h
    · have h := h.2 c8
      refine ab_iload_n (i := 3) d_M_without_58 rfl rfl ?_
      refine ab_iconst (v := 1) d_M_without_59 rfl ?_
      refine ab_iload (i := 4) d_M_without_60 rfl ?_
      refine ab_ishl d_M_without_62 ?_
      refine ab_iconst (v := (-1)) d_M_without_63 rfl ?_
      refine ab_ixor d_M_without_64 ?_
      refine ab_iand d_M_without_65 ?_
      refine ab_istore_n (i := 3) d_M_without_66 rfl (by decide) (Or.inr rfl) ?_
      exact h
theorem q_M_without_67 {w : ab_Wd} {d n nc ns : Nat} {I : Nat → Nat → Int32} {L : Nat → Nat → Int64} {res : ab_Re} (v1 : Int32) (v2 : Int32) (v3 : Int32) (v4 : Int32) (hc : nc ≤ res.2.2.2.2.2.1) (hs : ns ≤ res.2.2.2.2.2.2)
    (h : ab_E w (d + 1) mt_M_without 38 [.ref mx, .int v1, .int v2, .int v3, .int (v4 + 1)] [] (I, L, ab_RR, n, nc, ns) res) : ab_E w (d + 1) mt_M_without 67 [.ref mx, .int v1, .int v2, .int v3, .int v4] [] (I, L, ab_RR, n, nc, ns) res := by
  refine ab_iinc (i := 4) (v := (v4 + 1)) d_M_without_67 rfl rfl (by decide) (Or.inr rfl) ?_
  refine ab_goto (tgt := 38) d_M_without_70 (by decide) ?_
  exact h
theorem q_M_without_97 {w : ab_Wd} {d n nc ns : Nat} {I : Nat → Nat → Int32} {L : Nat → Nat → Int64} {res : ab_Re} (v1 : Int32) (v2 : Int32) (v3 : Int32) (v4 : Int32) (s0 : Int32) (hc : nc ≤ res.2.2.2.2.2.1) (hs : ns ≤ res.2.2.2.2.2.2)
    (h : res = (.inl (some (.int s0)), (I, L, ab_RR, n, nc, ns))) : ab_E w (d + 1) mt_M_without 97 [.ref mx, .int v1, .int v2, .int v3, .int v4] [.int s0] (I, L, ab_RR, n, nc, ns) res := by
  exact ab_iret (ty := .int) d_M_without_97 rfl rfl h
