theorem d_M_firm_0 : decode (ab_bc mt_M_firm) 0 = .ok (.aload_n 0, 1) := by decide +kernel
theorem d_M_firm_1 : decode (ab_bc mt_M_firm) 1 = .ok (.iconst 0, 1) := by decide +kernel
theorem d_M_firm_2 : decode (ab_bc mt_M_firm) 2 = .ok (.putfield 108, 3) := by decide +kernel
theorem d_M_firm_5 : decode (ab_bc mt_M_firm) 5 = .ok (.iload_n 1, 1) := by decide +kernel
theorem d_M_firm_6 : decode (ab_bc mt_M_firm) 6 = .ok (.iconst 0, 1) := by decide +kernel
theorem d_M_firm_7 : decode (ab_bc mt_M_firm) 7 = .ok (.iconst 3, 1) := by decide +kernel
theorem d_M_firm_8 : decode (ab_bc mt_M_firm) 8 = .ok (.invokestatic 344, 3) := by decide +kernel
theorem d_M_firm_11 : decode (ab_bc mt_M_firm) 11 = .ok (.ifCond .eq 12, 3) := by decide +kernel
theorem d_M_firm_14 : decode (ab_bc mt_M_firm) 14 = .ok (.iload_n 2, 1) := by decide +kernel
theorem d_M_firm_15 : decode (ab_bc mt_M_firm) 15 = .ok (.iconst 0, 1) := by decide +kernel
theorem d_M_firm_16 : decode (ab_bc mt_M_firm) 16 = .ok (.iconst 2, 1) := by decide +kernel
theorem d_M_firm_17 : decode (ab_bc mt_M_firm) 17 = .ok (.invokestatic 344, 3) := by decide +kernel
theorem d_M_firm_20 : decode (ab_bc mt_M_firm) 20 = .ok (.ifCond .ne 9, 3) := by decide +kernel
theorem d_M_firm_23 : decode (ab_bc mt_M_firm) 23 = .ok (.aload_n 0, 1) := by decide +kernel
theorem d_M_firm_24 : decode (ab_bc mt_M_firm) 24 = .ok (.iconst 1, 1) := by decide +kernel
theorem d_M_firm_25 : decode (ab_bc mt_M_firm) 25 = .ok (.invokevirtual 202, 3) := by decide +kernel
theorem d_M_firm_28 : decode (ab_bc mt_M_firm) 28 = .ok (.ireturn, 1) := by decide +kernel
theorem d_M_firm_29 : decode (ab_bc mt_M_firm) 29 = .ok (.aload_n 0, 1) := by decide +kernel
theorem d_M_firm_30 : decode (ab_bc mt_M_firm) 30 = .ok (.iload_n 1, 1) := by decide +kernel
theorem d_M_firm_31 : decode (ab_bc mt_M_firm) 31 = .ok (.invokevirtual 416, 3) := by decide +kernel
theorem d_M_firm_34 : decode (ab_bc mt_M_firm) 34 = .ok (.istore_n 3, 1) := by decide +kernel
theorem d_M_firm_35 : decode (ab_bc mt_M_firm) 35 = .ok (.iload_n 2, 1) := by decide +kernel
theorem d_M_firm_36 : decode (ab_bc mt_M_firm) 36 = .ok (.iconst 2, 1) := by decide +kernel
theorem d_M_firm_37 : decode (ab_bc mt_M_firm) 37 = .ok (.if_icmp .ge 22, 3) := by decide +kernel
theorem d_M_firm_40 : decode (ab_bc mt_M_firm) 40 = .ok (.iload_n 2, 1) := by decide +kernel
theorem d_M_firm_41 : decode (ab_bc mt_M_firm) 41 = .ok (.ifCond .ne 7, 3) := by decide +kernel
theorem d_M_firm_44 : decode (ab_bc mt_M_firm) 44 = .ok (.iload_n 3, 1) := by decide +kernel
theorem d_M_firm_45 : decode (ab_bc mt_M_firm) 45 = .ok (.goto 13, 3) := by decide +kernel
theorem d_M_firm_48 : decode (ab_bc mt_M_firm) 48 = .ok (.aload_n 0, 1) := by decide +kernel
theorem d_M_firm_49 : decode (ab_bc mt_M_firm) 49 = .ok (.iload_n 3, 1) := by decide +kernel
theorem d_M_firm_50 : decode (ab_bc mt_M_firm) 50 = .ok (.aload_n 0, 1) := by decide +kernel
theorem d_M_firm_51 : decode (ab_bc mt_M_firm) 51 = .ok (.invokevirtual 251, 3) := by decide +kernel
theorem d_M_firm_54 : decode (ab_bc mt_M_firm) 54 = .ok (.iand, 1) := by decide +kernel
theorem d_M_firm_55 : decode (ab_bc mt_M_firm) 55 = .ok (.invokevirtual 419, 3) := by decide +kernel
theorem d_M_firm_58 : decode (ab_bc mt_M_firm) 58 = .ok (.ireturn, 1) := by decide +kernel
theorem d_M_firm_59 : decode (ab_bc mt_M_firm) 59 = .ok (.aload_n 0, 1) := by decide +kernel
theorem d_M_firm_60 : decode (ab_bc mt_M_firm) 60 = .ok (.iload_n 3, 1) := by decide +kernel
theorem d_M_firm_61 : decode (ab_bc mt_M_firm) 61 = .ok (.invokevirtual 338, 3) := by decide +kernel
theorem d_M_firm_64 : decode (ab_bc mt_M_firm) 64 = .ok (.istore 4, 2) := by decide +kernel
theorem d_M_firm_66 : decode (ab_bc mt_M_firm) 66 = .ok (.iload 4, 2) := by decide +kernel
theorem d_M_firm_68 : decode (ab_bc mt_M_firm) 68 = .ok (.iconst (-1), 1) := by decide +kernel
theorem d_M_firm_69 : decode (ab_bc mt_M_firm) 69 = .ok (.if_icmp .ne 7, 3) := by decide +kernel
theorem d_M_firm_72 : decode (ab_bc mt_M_firm) 72 = .ok (.iconst (-1), 1) := by decide +kernel
theorem d_M_firm_73 : decode (ab_bc mt_M_firm) 73 = .ok (.goto 16, 3) := by decide +kernel
theorem d_M_firm_76 : decode (ab_bc mt_M_firm) 76 = .ok (.iload 4, 2) := by decide +kernel
theorem d_M_firm_78 : decode (ab_bc mt_M_firm) 78 = .ok (.aload_n 0, 1) := by decide +kernel
theorem d_M_firm_79 : decode (ab_bc mt_M_firm) 79 = .ok (.iload_n 3, 1) := by decide +kernel
theorem d_M_firm_80 : decode (ab_bc mt_M_firm) 80 = .ok (.aload_n 0, 1) := by decide +kernel
theorem d_M_firm_81 : decode (ab_bc mt_M_firm) 81 = .ok (.invokevirtual 251, 3) := by decide +kernel
theorem d_M_firm_84 : decode (ab_bc mt_M_firm) 84 = .ok (.iand, 1) := by decide +kernel
theorem d_M_firm_85 : decode (ab_bc mt_M_firm) 85 = .ok (.invokevirtual 419, 3) := by decide +kernel
theorem d_M_firm_88 : decode (ab_bc mt_M_firm) 88 = .ok (.iadd, 1) := by decide +kernel
theorem d_M_firm_89 : decode (ab_bc mt_M_firm) 89 = .ok (.ireturn, 1) := by decide +kernel
-- CableKeeperModel.firm(II)I over mx
theorem q_M_firm_0 {w : ab_Wd} {d n nc ns : Nat} {I : Nat → Nat → Int32} {L : Nat → Nat → Int64} {res : ab_Re} (v1 : Int32) (v2 : Int32) (hc : nc ≤ res.2.2.2.2.2.1) (hs : ns ≤ res.2.2.2.2.2.2)
    (h : ∃ (r1 : Int32), ab_C w d mt_M_isIn [.int v1, .int 0, .int 3] ((ab_up I mx 1 0), L, ab_RR, n, nc, ns) (.inl (some (.int r1)), ((ab_up I mx 1 0), L, ab_RR, n, nc, ns)) ∧ ((r1 = 0 → (ab_E w (d + 1) mt_M_firm 23 [.ref mx, .int v1, .int v2, .null, .null] [] ((ab_up I mx 1 0), L, ab_RR, n, nc, ns) res)) ∧ (¬ r1 = 0 → (∃ (r3 : Int32), ab_C w d mt_M_isIn [.int v2, .int 0, .int 2] ((ab_up I mx 1 0), L, ab_RR, n, nc, ns) (.inl (some (.int r3)), ((ab_up I mx 1 0), L, ab_RR, n, nc, ns)) ∧ ((¬ r3 = 0 → (∃ (r5 : Int32), ab_C w d mt_M_soundOf [.ref mx, .int v1] ((ab_up I mx 1 0), L, ab_RR, n, nc, ns) (.inl (some (.int r5)), ((ab_up I mx 1 0), L, ab_RR, n, nc, ns)) ∧ ((2 ≤ v2 → (∃ (r7 : Int32) (I8 : Nat → Nat → Int32), ab_C w d mt_M_lossOf [.ref mx, .int r5] ((ab_up I mx 1 0), L, ab_RR, n, nc, ns) (.inl (some (.int r7)), (I8, L, ab_RR, n, nc, ns)) ∧ ((¬ r7 = (-1) → (∃ (r10 : Int32) (I11 : Nat → Nat → Int32), ab_C w d mt_M_netNow [.ref mx] (I8, L, ab_RR, n, nc, ns) (.inl (some (.int r10)), (I11, L, ab_RR, n, nc, ns)) ∧ ∃ (r12 : Int32), ab_C w d mt_M_pricesOf [.ref mx, .int (r5 &&& r10)] (I11, L, ab_RR, n, nc, ns) (.inl (some (.int r12)), (I11, L, ab_RR, n, nc, ns)) ∧ ab_E w (d + 1) mt_M_firm 89 [.ref mx, .int v1, .int v2, .int r5, .int r7] [.int (r7 + r12)] (I11, L, ab_RR, n, nc, ns) res)) ∧ (r7 = (-1) → (ab_E w (d + 1) mt_M_firm 89 [.ref mx, .int v1, .int v2, .int r5, .int r7] [.int (-1)] (I8, L, ab_RR, n, nc, ns) res))))) ∧ (¬ 2 ≤ v2 → ((¬ v2 = 0 → (∃ (r14 : Int32) (I15 : Nat → Nat → Int32), ab_C w d mt_M_netNow [.ref mx] ((ab_up I mx 1 0), L, ab_RR, n, nc, ns) (.inl (some (.int r14)), (I15, L, ab_RR, n, nc, ns)) ∧ ∃ (r16 : Int32), ab_C w d mt_M_pricesOf [.ref mx, .int (r5 &&& r14)] (I15, L, ab_RR, n, nc, ns) (.inl (some (.int r16)), (I15, L, ab_RR, n, nc, ns)) ∧ ab_E w (d + 1) mt_M_firm 58 [.ref mx, .int v1, .int v2, .int r5, .null] [.int r16] (I15, L, ab_RR, n, nc, ns) res)) ∧ (v2 = 0 → (ab_E w (d + 1) mt_M_firm 58 [.ref mx, .int v1, .int v2, .int r5, .null] [.int r5] ((ab_up I mx 1 0), L, ab_RR, n, nc, ns) res))))))) ∧ (r3 = 0 → (ab_E w (d + 1) mt_M_firm 23 [.ref mx, .int v1, .int v2, .null, .null] [] ((ab_up I mx 1 0), L, ab_RR, n, nc, ns) res))))))) : ab_E w (d + 1) mt_M_firm 0 [.ref mx, .int v1, .int v2, .null, .null] [] (I, L, ab_RR, n, nc, ns) res := by
  refine ab_aload_n (i := 0) d_M_firm_0 rfl rfl ?_
  refine ab_iconst (v := 0) d_M_firm_1 rfl ?_
  refine ab_putI (ci := 11) (k := 1) d_M_firm_2 v_1369 rfl (by decide) (by decide) rfl (Or.inl rfl) rfl rfl ?_
  refine ab_iload_n (i := 1) d_M_firm_5 rfl rfl ?_
  refine ab_iconst (v := 0) d_M_firm_6 rfl ?_
  refine ab_iconst (v := 3) d_M_firm_7 rfl ?_
  obtain ⟨r1, hC, h⟩ := h
  refine ab_callS (me2 := mt_M_isIn) (as := [.int v1, .int 0, .int 3]) (st := []) (rv := (some (.int r1))) (M2 := ((ab_up I mx 1 0), L, ab_RR, n, nc, ns)) d_M_firm_8 ce_M_isIn ⟨v_1753, Or.inl v_1752⟩ (by decide) hC (Nat.le_refl _) (Nat.le_refl _) hc hs (fun j h9 => by cases h9) (fun _ _ => rfl) ?_
  show ab_E w (d + 1) mt_M_firm 11 [.ref mx, .int v1, .int v2, .null, .null] [.int r1] ((ab_up I mx 1 0), L, ab_RR, n, nc, ns) res
  refine ab_if_eq (tgt := 23) d_M_firm_11 (by decide) (fun c2 => ?_) (fun c2 => ?_)
  · have h := h.1 c2
    exact h
  · have h := h.2 c2
    refine ab_iload_n (i := 2) d_M_firm_14 rfl rfl ?_
    refine ab_iconst (v := 0) d_M_firm_15 rfl ?_
    refine ab_iconst (v := 2) d_M_firm_16 rfl ?_
    obtain ⟨r3, hC, h⟩ := h
    refine ab_callS (me2 := mt_M_isIn) (as := [.int v2, .int 0, .int 2]) (st := []) (rv := (some (.int r3))) (M2 := ((ab_up I mx 1 0), L, ab_RR, n, nc, ns)) d_M_firm_17 ce_M_isIn ⟨v_1753, Or.inl v_1752⟩ (by decide) hC (Nat.le_refl _) (Nat.le_refl _) hc hs (fun j h9 => by cases h9) (fun _ _ => rfl) ?_
    show ab_E w (d + 1) mt_M_firm 20 [.ref mx, .int v1, .int v2, .null, .null] [.int r3] ((ab_up I mx 1 0), L, ab_RR, n, nc, ns) res
    refine ab_if_ne (tgt := 29) d_M_firm_20 (by decide) (fun c4 => ?_) (fun c4 => ?_)
    · have h := h.1 c4
      refine ab_aload_n (i := 0) d_M_firm_29 rfl rfl ?_
      refine ab_iload_n (i := 1) d_M_firm_30 rfl rfl ?_
      obtain ⟨r5, hC, h⟩ := h
      refine ab_callV (me2 := mt_M_soundOf) (b := mx) (as := [.int v1]) (st := []) (rv := (some (.int r5))) (M2 := ((ab_up I mx 1 0), L, ab_RR, n, nc, ns)) d_M_firm_31 ce_M_soundOf v_1867 v_1869 v_123 (by decide) rfl (by decide) hC (Nat.le_refl _) (Nat.le_refl _) hc hs (fun j h9 => by cases h9) (fun _ _ => rfl) ?_
      show ab_E w (d + 1) mt_M_firm 34 [.ref mx, .int v1, .int v2, .null, .null] [.int r5] ((ab_up I mx 1 0), L, ab_RR, n, nc, ns) res
      refine ab_istore_n (i := 3) d_M_firm_34 rfl (by decide) (Or.inr rfl) ?_
      refine ab_iload_n (i := 2) d_M_firm_35 rfl rfl ?_
      refine ab_iconst (v := 2) d_M_firm_36 rfl ?_
      refine ab_icmp_ge (tgt := 59) d_M_firm_37 (by decide) (fun c6 => ?_) (fun c6 => ?_)
      · have h := h.1 c6
        refine ab_aload_n (i := 0) d_M_firm_59 rfl rfl ?_
        refine ab_iload_n (i := 3) d_M_firm_60 rfl rfl ?_
        obtain ⟨r7, I8, hC, h⟩ := h
        refine ab_callV (me2 := mt_M_lossOf) (b := mx) (as := [.int r5]) (st := []) (rv := (some (.int r7))) (M2 := (I8, L, ab_RR, n, nc, ns)) d_M_firm_61 ce_M_lossOf v_1767 v_1769 v_109 (by decide) rfl (by decide) hC (Nat.le_refl _) (Nat.le_refl _) hc hs (fun j h9 => by cases h9) (fun _ _ => rfl) ?_
        show ab_E w (d + 1) mt_M_firm 64 [.ref mx, .int v1, .int v2, .int r5, .null] [.int r7] (I8, L, ab_RR, n, nc, ns) res
        refine ab_istore (i := 4) d_M_firm_64 (by decide) (Or.inr rfl) ?_
        refine ab_iload (i := 4) d_M_firm_66 rfl ?_
        refine ab_iconst (v := (-1)) d_M_firm_68 rfl ?_
        refine ab_icmp_ne (tgt := 76) d_M_firm_69 (by decide) (fun c9 => ?_) (fun c9 => ?_)
        · have h := h.1 c9
          refine ab_iload (i := 4) d_M_firm_76 rfl ?_
          refine ab_aload_n (i := 0) d_M_firm_78 rfl rfl ?_
          refine ab_iload_n (i := 3) d_M_firm_79 rfl rfl ?_
          refine ab_aload_n (i := 0) d_M_firm_80 rfl rfl ?_
          obtain ⟨r10, I11, hC, h⟩ := h
          refine ab_callV (me2 := mt_M_netNow) (b := mx) (as := []) (st := [.int r5, .ref mx, .int r7]) (rv := (some (.int r10))) (M2 := (I11, L, ab_RR, n, nc, ns)) d_M_firm_81 ce_M_netNow v_1639 v_1641 v_80 (by decide) rfl (by decide) hC (Nat.le_refl _) (Nat.le_refl _) hc hs (fun j h9 => by cases h9) (fun _ _ => rfl) ?_
          show ab_E w (d + 1) mt_M_firm 84 [.ref mx, .int v1, .int v2, .int r5, .int r7] [.int r10, .int r5, .ref mx, .int r7] (I11, L, ab_RR, n, nc, ns) res
          refine ab_iand d_M_firm_84 ?_
          obtain ⟨r12, hC, h⟩ := h
          refine ab_callV (me2 := mt_M_pricesOf) (b := mx) (as := [.int (r5 &&& r10)]) (st := [.int r7]) (rv := (some (.int r12))) (M2 := (I11, L, ab_RR, n, nc, ns)) d_M_firm_85 ce_M_pricesOf v_1871 v_1873 v_124 (by decide) rfl (by decide) hC (Nat.le_refl _) (Nat.le_refl _) hc hs (fun j h9 => by cases h9) (fun _ _ => rfl) ?_
          show ab_E w (d + 1) mt_M_firm 88 [.ref mx, .int v1, .int v2, .int r5, .int r7] [.int r12, .int r7] (I11, L, ab_RR, n, nc, ns) res
          refine ab_iadd d_M_firm_88 ?_
          exact h
        · have h := h.2 c9
          refine ab_iconst (v := (-1)) d_M_firm_72 rfl ?_
          refine ab_goto (tgt := 89) d_M_firm_73 (by decide) ?_
          exact h
      · have h := h.2 c6
        refine ab_iload_n (i := 2) d_M_firm_40 rfl rfl ?_
        refine ab_if_ne (tgt := 48) d_M_firm_41 (by decide) (fun c13 => ?_) (fun c13 => ?_)
        · have h := h.1 c13
          refine ab_aload_n (i := 0) d_M_firm_48 rfl rfl ?_
          refine ab_iload_n (i := 3) d_M_firm_49 rfl rfl ?_
          refine ab_aload_n (i := 0) d_M_firm_50 rfl rfl ?_
          obtain ⟨r14, I15, hC, h⟩ := h
          refine ab_callV (me2 := mt_M_netNow) (b := mx) (as := []) (st := [.int r5, .ref mx]) (rv := (some (.int r14))) (M2 := (I15, L, ab_RR, n, nc, ns)) d_M_firm_51 ce_M_netNow v_1639 v_1641 v_80 (by decide) rfl (by decide) hC (Nat.le_refl _) (Nat.le_refl _) hc hs (fun j h9 => by cases h9) (fun _ _ => rfl) ?_
          show ab_E w (d + 1) mt_M_firm 54 [.ref mx, .int v1, .int v2, .int r5, .null] [.int r14, .int r5, .ref mx] (I15, L, ab_RR, n, nc, ns) res
          refine ab_iand d_M_firm_54 ?_
          obtain ⟨r16, hC, h⟩ := h
          refine ab_callV (me2 := mt_M_pricesOf) (b := mx) (as := [.int (r5 &&& r14)]) (st := []) (rv := (some (.int r16))) (M2 := (I15, L, ab_RR, n, nc, ns)) d_M_firm_55 ce_M_pricesOf v_1871 v_1873 v_124 (by decide) rfl (by decide) hC (Nat.le_refl _) (Nat.le_refl _) hc hs (fun j h9 => by cases h9) (fun _ _ => rfl) ?_
          show ab_E w (d + 1) mt_M_firm 58 [.ref mx, .int v1, .int v2, .int r5, .null] [.int r16] (I15, L, ab_RR, n, nc, ns) res
          exact h
        · have h := h.2 c13
          refine ab_iload_n (i := 3) d_M_firm_44 rfl rfl ?_
          refine ab_goto (tgt := 58) d_M_firm_45 (by decide) ?_
          exact h
    · have h := h.2 c4
      exact h
theorem q_M_firm_23 {w : ab_Wd} {d n nc ns : Nat} {I : Nat → Nat → Int32} {L : Nat → Nat → Int64} {res : ab_Re} (v1 : Int32) (v2 : Int32) (hc : nc ≤ res.2.2.2.2.2.1) (hs : ns ≤ res.2.2.2.2.2.2)
    (h : ∃ (r1 : Int32) (I2 : Nat → Nat → Int32), ab_C w d mt_M_fail [.ref mx, .int 1] (I, L, ab_RR, n, nc, ns) (.inl (some (.int r1)), (I2, L, ab_RR, n, nc, ns)) ∧ res = (.inl (some (.int r1)), (I2, L, ab_RR, n, nc, ns))) : ab_E w (d + 1) mt_M_firm 23 [.ref mx, .int v1, .int v2, .null, .null] [] (I, L, ab_RR, n, nc, ns) res := by
  refine ab_aload_n (i := 0) d_M_firm_23 rfl rfl ?_
  refine ab_iconst (v := 1) d_M_firm_24 rfl ?_
  obtain ⟨r1, I2, hC, h⟩ := h
  refine ab_callV (me2 := mt_M_fail) (b := mx) (as := [.int 1]) (st := []) (rv := (some (.int r1))) (M2 := (I2, L, ab_RR, n, nc, ns)) d_M_firm_25 ce_M_fail v_1562 v_1564 v_66 (by decide) rfl (by decide) hC (Nat.le_refl _) (Nat.le_refl _) hc hs (fun j h9 => by cases h9) (fun _ _ => rfl) ?_
  show ab_E w (d + 1) mt_M_firm 28 [.ref mx, .int v1, .int v2, .null, .null] [.int r1] (I2, L, ab_RR, n, nc, ns) res
  exact ab_iret (ty := .int) d_M_firm_28 rfl rfl h
theorem q_M_firm_58 {w : ab_Wd} {d n nc ns : Nat} {I : Nat → Nat → Int32} {L : Nat → Nat → Int64} {res : ab_Re} (v1 : Int32) (v2 : Int32) (v3 : Int32) (s0 : Int32) (hc : nc ≤ res.2.2.2.2.2.1) (hs : ns ≤ res.2.2.2.2.2.2)
    (h : res = (.inl (some (.int s0)), (I, L, ab_RR, n, nc, ns))) : ab_E w (d + 1) mt_M_firm 58 [.ref mx, .int v1, .int v2, .int v3, .null] [.int s0] (I, L, ab_RR, n, nc, ns) res := by
  exact ab_iret (ty := .int) d_M_firm_58 rfl rfl h
theorem q_M_firm_89 {w : ab_Wd} {d n nc ns : Nat} {I : Nat → Nat → Int32} {L : Nat → Nat → Int64} {res : ab_Re} (v1 : Int32) (v2 : Int32) (v3 : Int32) (v4 : Int32) (s0 : Int32) (hc : nc ≤ res.2.2.2.2.2.1) (hs : ns ≤ res.2.2.2.2.2.2)
    (h : res = (.inl (some (.int s0)), (I, L, ab_RR, n, nc, ns))) : ab_E w (d + 1) mt_M_firm 89 [.ref mx, .int v1, .int v2, .int v3, .int v4] [.int s0] (I, L, ab_RR, n, nc, ns) res := by
  exact ab_iret (ty := .int) d_M_firm_89 rfl rfl h
theorem d_M_lessens_0 : decode (ab_bc mt_M_lessens) 0 = .ok (.iload_n 2, 1) := by decide +kernel
theorem d_M_lessens_1 : decode (ab_bc mt_M_lessens) 1 = .ok (.aload_n 0, 1) := by decide +kernel
theorem d_M_lessens_2 : decode (ab_bc mt_M_lessens) 2 = .ok (.getfield 78, 3) := by decide +kernel
theorem d_M_lessens_5 : decode (ab_bc mt_M_lessens) 5 = .ok (.iload_n 1, 1) := by decide +kernel
theorem d_M_lessens_6 : decode (ab_bc mt_M_lessens) 6 = .ok (.iaload, 1) := by decide +kernel
theorem d_M_lessens_7 : decode (ab_bc mt_M_lessens) 7 = .ok (.if_icmp .lt 5, 3) := by decide +kernel
theorem d_M_lessens_10 : decode (ab_bc mt_M_lessens) 10 = .ok (.iconst 0, 1) := by decide +kernel
theorem d_M_lessens_11 : decode (ab_bc mt_M_lessens) 11 = .ok (.ireturn, 1) := by decide +kernel
theorem d_M_lessens_12 : decode (ab_bc mt_M_lessens) 12 = .ok (.aload_n 0, 1) := by decide +kernel
theorem d_M_lessens_13 : decode (ab_bc mt_M_lessens) 13 = .ok (.getfield 78, 3) := by decide +kernel
theorem d_M_lessens_16 : decode (ab_bc mt_M_lessens) 16 = .ok (.iload_n 1, 1) := by decide +kernel
theorem d_M_lessens_17 : decode (ab_bc mt_M_lessens) 17 = .ok (.iload_n 2, 1) := by decide +kernel
theorem d_M_lessens_18 : decode (ab_bc mt_M_lessens) 18 = .ok (.iastore, 1) := by decide +kernel
theorem d_M_lessens_19 : decode (ab_bc mt_M_lessens) 19 = .ok (.iconst 1, 1) := by decide +kernel
theorem d_M_lessens_20 : decode (ab_bc mt_M_lessens) 20 = .ok (.ireturn, 1) := by decide +kernel
-- CableKeeperModel.lessens(II)Z over mx
theorem q_M_lessens_0 {w : ab_Wd} {d n nc ns : Nat} {I : Nat → Nat → Int32} {L : Nat → Nat → Int64} {res : ab_Re} (v1 : Int32) (v2 : Int32) (hc : nc ≤ res.2.2.2.2.2.1) (hs : ns ≤ res.2.2.2.2.2.2)
    (h : (vp_in v1 10240) ∧ ((v2 < (I mx_joint v1.toNatClampNeg) → ((vp_in v1 10240) ∧ res = (.inl (some (.int 1)), ((ab_up I mx_joint v1.toNatClampNeg v2), L, ab_RR, n, nc, ns)))) ∧ (¬ v2 < (I mx_joint v1.toNatClampNeg) → (res = (.inl (some (.int 0)), (I, L, ab_RR, n, nc, ns)))))) : ab_E w d mt_M_lessens 0 [.ref mx, .int v1, .int v2] [] (I, L, ab_RR, n, nc, ns) res := by
  refine ab_iload_n (i := 2) d_M_lessens_0 rfl rfl ?_
  refine ab_aload_n (i := 0) d_M_lessens_1 rfl rfl ?_
  refine ab_getR (ci := 11) (k := 40) (j := mx_joint) d_M_lessens_2 v_1408 rfl (by decide) (by decide) rfl r_mx_40 ?_
  refine ab_iload_n (i := 1) d_M_lessens_5 rfl rfl ?_
  have g1 := h.1; have h := h.2
  refine ab_iald d_M_lessens_6 rfl rfl g1 ?_
  refine ab_icmp_lt (tgt := 12) d_M_lessens_7 (by decide) (fun c2 => ?_) (fun c2 => ?_)
  · have h := h.1 c2
    refine ab_aload_n (i := 0) d_M_lessens_12 rfl rfl ?_
    refine ab_getR (ci := 11) (k := 40) (j := mx_joint) d_M_lessens_13 v_1408 rfl (by decide) (by decide) rfl r_mx_40 ?_
    refine ab_iload_n (i := 1) d_M_lessens_16 rfl rfl ?_
    refine ab_iload_n (i := 2) d_M_lessens_17 rfl rfl ?_
    have g3 := h.1; have h := h.2
    refine ab_iast d_M_lessens_18 rfl rfl g3 ?_
    refine ab_iconst (v := 1) d_M_lessens_19 rfl ?_
    exact ab_iret (ty := .boolean) d_M_lessens_20 rfl rfl h
  · have h := h.2 c2
    refine ab_iconst (v := 0) d_M_lessens_10 rfl ?_
    exact ab_iret (ty := .boolean) d_M_lessens_11 rfl rfl h
theorem d_M_spreads_0 : decode (ab_bc mt_M_spreads) 0 = .ok (.iconst 1, 1) := by decide +kernel
theorem d_M_spreads_1 : decode (ab_bc mt_M_spreads) 1 = .ok (.istore_n 2, 1) := by decide +kernel
theorem d_M_spreads_2 : decode (ab_bc mt_M_spreads) 2 = .ok (.iload_n 2, 1) := by decide +kernel
theorem d_M_spreads_3 : decode (ab_bc mt_M_spreads) 3 = .ok (.ifCond .eq 130, 3) := by decide +kernel
theorem d_M_spreads_6 : decode (ab_bc mt_M_spreads) 6 = .ok (.iconst 0, 1) := by decide +kernel
theorem d_M_spreads_7 : decode (ab_bc mt_M_spreads) 7 = .ok (.istore_n 2, 1) := by decide +kernel
theorem d_M_spreads_8 : decode (ab_bc mt_M_spreads) 8 = .ok (.iconst 0, 1) := by decide +kernel
theorem d_M_spreads_9 : decode (ab_bc mt_M_spreads) 9 = .ok (.istore_n 3, 1) := by decide +kernel
theorem d_M_spreads_10 : decode (ab_bc mt_M_spreads) 10 = .ok (.iload_n 3, 1) := by decide +kernel
theorem d_M_spreads_11 : decode (ab_bc mt_M_spreads) 11 = .ok (.aload_n 0, 1) := by decide +kernel
theorem d_M_spreads_12 : decode (ab_bc mt_M_spreads) 12 = .ok (.invokevirtual 234, 3) := by decide +kernel
theorem d_M_spreads_15 : decode (ab_bc mt_M_spreads) 15 = .ok (.if_icmp .ge 115, 3) := by decide +kernel
theorem d_M_spreads_18 : decode (ab_bc mt_M_spreads) 18 = .ok (.aload_n 0, 1) := by decide +kernel
theorem d_M_spreads_19 : decode (ab_bc mt_M_spreads) 19 = .ok (.iload_n 3, 1) := by decide +kernel
theorem d_M_spreads_20 : decode (ab_bc mt_M_spreads) 20 = .ok (.invokevirtual 262, 3) := by decide +kernel
theorem d_M_spreads_23 : decode (ab_bc mt_M_spreads) 23 = .ok (.ifCond .ne 6, 3) := by decide +kernel
theorem d_M_spreads_26 : decode (ab_bc mt_M_spreads) 26 = .ok (.goto 98, 3) := by decide +kernel
theorem d_M_spreads_29 : decode (ab_bc mt_M_spreads) 29 = .ok (.bipush 10, 2) := by decide +kernel
theorem d_M_spreads_31 : decode (ab_bc mt_M_spreads) 31 = .ok (.iload_n 1, 1) := by decide +kernel
theorem d_M_spreads_32 : decode (ab_bc mt_M_spreads) 32 = .ok (.imul, 1) := by decide +kernel
theorem d_M_spreads_33 : decode (ab_bc mt_M_spreads) 33 = .ok (.aload_n 0, 1) := by decide +kernel
theorem d_M_spreads_34 : decode (ab_bc mt_M_spreads) 34 = .ok (.getfield 24, 3) := by decide +kernel
theorem d_M_spreads_37 : decode (ab_bc mt_M_spreads) 37 = .ok (.iconst 3, 1) := by decide +kernel
theorem d_M_spreads_38 : decode (ab_bc mt_M_spreads) 38 = .ok (.iload_n 3, 1) := by decide +kernel
theorem d_M_spreads_39 : decode (ab_bc mt_M_spreads) 39 = .ok (.iadd, 1) := by decide +kernel
theorem d_M_spreads_40 : decode (ab_bc mt_M_spreads) 40 = .ok (.iaload, 1) := by decide +kernel
theorem d_M_spreads_41 : decode (ab_bc mt_M_spreads) 41 = .ok (.iadd, 1) := by decide +kernel
theorem d_M_spreads_42 : decode (ab_bc mt_M_spreads) 42 = .ok (.istore 4, 2) := by decide +kernel
theorem d_M_spreads_44 : decode (ab_bc mt_M_spreads) 44 = .ok (.bipush 10, 2) := by decide +kernel
theorem d_M_spreads_46 : decode (ab_bc mt_M_spreads) 46 = .ok (.iload_n 1, 1) := by decide +kernel
theorem d_M_spreads_47 : decode (ab_bc mt_M_spreads) 47 = .ok (.imul, 1) := by decide +kernel
theorem d_M_spreads_48 : decode (ab_bc mt_M_spreads) 48 = .ok (.aload_n 0, 1) := by decide +kernel
theorem d_M_spreads_49 : decode (ab_bc mt_M_spreads) 49 = .ok (.getfield 24, 3) := by decide +kernel
theorem d_M_spreads_52 : decode (ab_bc mt_M_spreads) 52 = .ok (.bipush 27, 2) := by decide +kernel
theorem d_M_spreads_54 : decode (ab_bc mt_M_spreads) 54 = .ok (.iload_n 3, 1) := by decide +kernel
theorem d_M_spreads_55 : decode (ab_bc mt_M_spreads) 55 = .ok (.iadd, 1) := by decide +kernel
theorem d_M_spreads_56 : decode (ab_bc mt_M_spreads) 56 = .ok (.iaload, 1) := by decide +kernel
theorem d_M_spreads_57 : decode (ab_bc mt_M_spreads) 57 = .ok (.iadd, 1) := by decide +kernel
theorem d_M_spreads_58 : decode (ab_bc mt_M_spreads) 58 = .ok (.istore 5, 2) := by decide +kernel
theorem d_M_spreads_60 : decode (ab_bc mt_M_spreads) 60 = .ok (.aload_n 0, 1) := by decide +kernel
theorem d_M_spreads_61 : decode (ab_bc mt_M_spreads) 61 = .ok (.iload 4, 2) := by decide +kernel
theorem d_M_spreads_63 : decode (ab_bc mt_M_spreads) 63 = .ok (.aload_n 0, 1) := by decide +kernel
theorem d_M_spreads_64 : decode (ab_bc mt_M_spreads) 64 = .ok (.getfield 78, 3) := by decide +kernel
theorem d_M_spreads_67 : decode (ab_bc mt_M_spreads) 67 = .ok (.iload 5, 2) := by decide +kernel
theorem d_M_spreads_69 : decode (ab_bc mt_M_spreads) 69 = .ok (.iaload, 1) := by decide +kernel
theorem d_M_spreads_70 : decode (ab_bc mt_M_spreads) 70 = .ok (.aload_n 0, 1) := by decide +kernel
theorem d_M_spreads_71 : decode (ab_bc mt_M_spreads) 71 = .ok (.iload_n 3, 1) := by decide +kernel
theorem d_M_spreads_72 : decode (ab_bc mt_M_spreads) 72 = .ok (.invokevirtual 222, 3) := by decide +kernel
theorem d_M_spreads_75 : decode (ab_bc mt_M_spreads) 75 = .ok (.iadd, 1) := by decide +kernel
theorem d_M_spreads_76 : decode (ab_bc mt_M_spreads) 76 = .ok (.invokevirtual 422, 3) := by decide +kernel
theorem d_M_spreads_79 : decode (ab_bc mt_M_spreads) 79 = .ok (.ifCond .ne 7, 3) := by decide +kernel
theorem d_M_spreads_82 : decode (ab_bc mt_M_spreads) 82 = .ok (.iload_n 2, 1) := by decide +kernel
theorem d_M_spreads_83 : decode (ab_bc mt_M_spreads) 83 = .ok (.ifCond .eq 7, 3) := by decide +kernel
theorem d_M_spreads_86 : decode (ab_bc mt_M_spreads) 86 = .ok (.iconst 1, 1) := by decide +kernel
theorem d_M_spreads_87 : decode (ab_bc mt_M_spreads) 87 = .ok (.goto 4, 3) := by decide +kernel
theorem d_M_spreads_90 : decode (ab_bc mt_M_spreads) 90 = .ok (.iconst 0, 1) := by decide +kernel
theorem d_M_spreads_91 : decode (ab_bc mt_M_spreads) 91 = .ok (.istore_n 2, 1) := by decide +kernel
theorem d_M_spreads_92 : decode (ab_bc mt_M_spreads) 92 = .ok (.aload_n 0, 1) := by decide +kernel
theorem d_M_spreads_93 : decode (ab_bc mt_M_spreads) 93 = .ok (.iload 5, 2) := by decide +kernel
theorem d_M_spreads_95 : decode (ab_bc mt_M_spreads) 95 = .ok (.aload_n 0, 1) := by decide +kernel
theorem d_M_spreads_96 : decode (ab_bc mt_M_spreads) 96 = .ok (.getfield 78, 3) := by decide +kernel
theorem d_M_spreads_99 : decode (ab_bc mt_M_spreads) 99 = .ok (.iload 4, 2) := by decide +kernel
theorem d_M_spreads_101 : decode (ab_bc mt_M_spreads) 101 = .ok (.iaload, 1) := by decide +kernel
theorem d_M_spreads_102 : decode (ab_bc mt_M_spreads) 102 = .ok (.aload_n 0, 1) := by decide +kernel
theorem d_M_spreads_103 : decode (ab_bc mt_M_spreads) 103 = .ok (.iload_n 3, 1) := by decide +kernel
theorem d_M_spreads_104 : decode (ab_bc mt_M_spreads) 104 = .ok (.invokevirtual 222, 3) := by decide +kernel
theorem d_M_spreads_107 : decode (ab_bc mt_M_spreads) 107 = .ok (.iadd, 1) := by decide +kernel
theorem d_M_spreads_108 : decode (ab_bc mt_M_spreads) 108 = .ok (.invokevirtual 422, 3) := by decide +kernel
theorem d_M_spreads_111 : decode (ab_bc mt_M_spreads) 111 = .ok (.ifCond .ne 7, 3) := by decide +kernel
theorem d_M_spreads_114 : decode (ab_bc mt_M_spreads) 114 = .ok (.iload_n 2, 1) := by decide +kernel
theorem d_M_spreads_115 : decode (ab_bc mt_M_spreads) 115 = .ok (.ifCond .eq 7, 3) := by decide +kernel
theorem d_M_spreads_118 : decode (ab_bc mt_M_spreads) 118 = .ok (.iconst 1, 1) := by decide +kernel
theorem d_M_spreads_119 : decode (ab_bc mt_M_spreads) 119 = .ok (.goto 4, 3) := by decide +kernel
theorem d_M_spreads_122 : decode (ab_bc mt_M_spreads) 122 = .ok (.iconst 0, 1) := by decide +kernel
theorem d_M_spreads_123 : decode (ab_bc mt_M_spreads) 123 = .ok (.istore_n 2, 1) := by decide +kernel
theorem d_M_spreads_124 : decode (ab_bc mt_M_spreads) 124 = .ok (.iinc 3 1, 3) := by decide +kernel
theorem d_M_spreads_127 : decode (ab_bc mt_M_spreads) 127 = .ok (.goto (-117), 3) := by decide +kernel
theorem d_M_spreads_130 : decode (ab_bc mt_M_spreads) 130 = .ok (.goto (-128), 3) := by decide +kernel
theorem d_M_spreads_133 : decode (ab_bc mt_M_spreads) 133 = .ok (.return_, 1) := by decide +kernel
-- CableKeeperModel.spreads(I)V over mx
theorem q_M_spreads_0 {w : ab_Wd} {d n nc ns : Nat} {I : Nat → Nat → Int32} {L : Nat → Nat → Int64} {res : ab_Re} (v1 : Int32) (hc : nc ≤ res.2.2.2.2.2.1) (hs : ns ≤ res.2.2.2.2.2.2)
    (h : ab_E w (d + 1) mt_M_spreads 2 [.ref mx, .int v1, .int 1, .null, .null, .null] [] (I, L, ab_RR, n, nc, ns) res) : ab_E w (d + 1) mt_M_spreads 0 [.ref mx, .int v1, .null, .null, .null, .null] [] (I, L, ab_RR, n, nc, ns) res := by
  refine ab_iconst (v := 1) d_M_spreads_0 rfl ?_
  refine ab_istore_n (i := 2) d_M_spreads_1 rfl (by decide) (Or.inr rfl) ?_
  exact h
theorem q_M_spreads_2 {w : ab_Wd} {d n nc ns : Nat} {I : Nat → Nat → Int32} {L : Nat → Nat → Int64} {res : ab_Re} (v1 : Int32) (v2 : Int32) (hc : nc ≤ res.2.2.2.2.2.1) (hs : ns ≤ res.2.2.2.2.2.2)
    (h : ((v2 = 0 → (res = (.inl none, (I, L, ab_RR, n, nc, ns)))) ∧ (¬ v2 = 0 → (ab_E w (d + 1) mt_M_spreads 10 [.ref mx, .int v1, .int 0, .int 0, .null, .null] [] (I, L, ab_RR, n, nc, ns) res)))) : ab_E w (d + 1) mt_M_spreads 2 [.ref mx, .int v1, .int v2, .null, .null, .null] [] (I, L, ab_RR, n, nc, ns) res := by
  refine ab_iload_n (i := 2) d_M_spreads_2 rfl rfl ?_
  refine ab_if_eq (tgt := 133) d_M_spreads_3 (by decide) (fun c1 => ?_) (fun c1 => ?_)
  · have h := h.1 c1
    exact ab_vret d_M_spreads_133 rfl h
  · have h := h.2 c1
    refine ab_iconst (v := 0) d_M_spreads_6 rfl ?_
    refine ab_istore_n (i := 2) d_M_spreads_7 rfl (by decide) (Or.inr rfl) ?_
    refine ab_iconst (v := 0) d_M_spreads_8 rfl ?_
    refine ab_istore_n (i := 3) d_M_spreads_9 rfl (by decide) (Or.inr rfl) ?_
    exact h
theorem q_M_spreads_10 {w : ab_Wd} {d n nc ns : Nat} {I : Nat → Nat → Int32} {L : Nat → Nat → Int64} {res : ab_Re} (v1 : Int32) (v2 : Int32) (v3 : Int32) (hc : nc ≤ res.2.2.2.2.2.1) (hs : ns ≤ res.2.2.2.2.2.2)
    (h : ∃ (r1 : Int32), ab_C w d mt_M_many [.ref mx] (I, L, ab_RR, n, nc, ns) (.inl (some (.int r1)), (I, L, ab_RR, n, nc, ns)) ∧ ((r1 ≤ v3 → (ab_E w (d + 1) mt_M_spreads 2 [.ref mx, .int v1, .int v2, .null, .null, .null] [] (I, L, ab_RR, n, nc, ns) res)) ∧ (¬ r1 ≤ v3 → (∃ (r3 : Int32), ab_C w d mt_M_isSound [.ref mx, .int v3] (I, L, ab_RR, n, nc, ns) (.inl (some (.int r3)), (I, L, ab_RR, n, nc, ns)) ∧ ((¬ r3 = 0 → ((vp_in (3 + v3) 399) ∧ (vp_in (27 + v3) 399) ∧ (vp_in ((10 * v1) + (I mx_now (27 + v3).toNatClampNeg)) 10240) ∧ ∃ (r8 : Int32), ab_C w d mt_M_priceOf [.ref mx, .int v3] (I, L, ab_RR, n, nc, ns) (.inl (some (.int r8)), (I, L, ab_RR, n, nc, ns)) ∧ ∃ (r9 : Int32) (I10 : Nat → Nat → Int32), ab_C w d mt_M_lessens [.ref mx, .int ((10 * v1) + (I mx_now (3 + v3).toNatClampNeg)), .int ((I mx_joint ((10 * v1) + (I mx_now (27 + v3).toNatClampNeg)).toNatClampNeg) + r8)] (I, L, ab_RR, n, nc, ns) (.inl (some (.int r9)), (I10, L, ab_RR, n, nc, ns)) ∧ ((¬ r9 = 0 → (ab_E w (d + 1) mt_M_spreads 86 [.ref mx, .int v1, .int v2, .int v3, .int ((10 * v1) + (I mx_now (3 + v3).toNatClampNeg)), .int ((10 * v1) + (I mx_now (27 + v3).toNatClampNeg))] [] (I10, L, ab_RR, n, nc, ns) res)) ∧ (r9 = 0 → ((v2 = 0 → (ab_E w (d + 1) mt_M_spreads 91 [.ref mx, .int v1, .int v2, .int v3, .int ((10 * v1) + (I mx_now (3 + v3).toNatClampNeg)), .int ((10 * v1) + (I mx_now (27 + v3).toNatClampNeg))] [.int 0] (I10, L, ab_RR, n, nc, ns) res)) ∧ (¬ v2 = 0 → (ab_E w (d + 1) mt_M_spreads 86 [.ref mx, .int v1, .int v2, .int v3, .int ((10 * v1) + (I mx_now (3 + v3).toNatClampNeg)), .int ((10 * v1) + (I mx_now (27 + v3).toNatClampNeg))] [] (I10, L, ab_RR, n, nc, ns) res))))))) ∧ (r3 = 0 → (ab_E w (d + 1) mt_M_spreads 124 [.ref mx, .int v1, .int v2, .int v3, .null, .null] [] (I, L, ab_RR, n, nc, ns) res))))))) : ab_E w (d + 1) mt_M_spreads 10 [.ref mx, .int v1, .int v2, .int v3, .null, .null] [] (I, L, ab_RR, n, nc, ns) res := by
  refine ab_iload_n (i := 3) d_M_spreads_10 rfl rfl ?_
  refine ab_aload_n (i := 0) d_M_spreads_11 rfl rfl ?_
  obtain ⟨r1, hC, h⟩ := h
  refine ab_callV (me2 := mt_M_many) (b := mx) (as := []) (st := [.int v3]) (rv := (some (.int r1))) (M2 := (I, L, ab_RR, n, nc, ns)) d_M_spreads_12 ce_M_many v_1635 v_1637 v_79 (by decide) rfl (by decide) hC (Nat.le_refl _) (Nat.le_refl _) hc hs (fun j h9 => by cases h9) (fun _ _ => rfl) ?_
  show ab_E w (d + 1) mt_M_spreads 15 [.ref mx, .int v1, .int v2, .int v3, .null, .null] [.int r1, .int v3] (I, L, ab_RR, n, nc, ns) res
  refine ab_icmp_ge (tgt := 130) d_M_spreads_15 (by decide) (fun c2 => ?_) (fun c2 => ?_)
  · have h := h.1 c2
    refine ab_goto (tgt := 2) d_M_spreads_130 (by decide) ?_
    refine ab_drop 3 ?_
    exact h
  · have h := h.2 c2
    refine ab_aload_n (i := 0) d_M_spreads_18 rfl rfl ?_
    refine ab_iload_n (i := 3) d_M_spreads_19 rfl rfl ?_
    obtain ⟨r3, hC, h⟩ := h
    refine ab_callV (me2 := mt_M_isSound) (b := mx) (as := [.int v3]) (st := []) (rv := (some (.int r3))) (M2 := (I, L, ab_RR, n, nc, ns)) d_M_spreads_20 ce_M_isSound v_1679 v_1681 v_89 (by decide) rfl (by decide) hC (Nat.le_refl _) (Nat.le_refl _) hc hs (fun j h9 => by cases h9) (fun _ _ => rfl) ?_
    show ab_E w (d + 1) mt_M_spreads 23 [.ref mx, .int v1, .int v2, .int v3, .null, .null] [.int r3] (I, L, ab_RR, n, nc, ns) res
    refine ab_if_ne (tgt := 29) d_M_spreads_23 (by decide) (fun c4 => ?_) (fun c4 => ?_)
    · have h := h.1 c4
      refine ab_bipush (v := 10) d_M_spreads_29 rfl ?_
      refine ab_iload_n (i := 1) d_M_spreads_31 rfl rfl ?_
      refine ab_imul d_M_spreads_32 ?_
      refine ab_aload_n (i := 0) d_M_spreads_33 rfl rfl ?_
      refine ab_getR (ci := 11) (k := 4) (j := mx_now) d_M_spreads_34 v_1372 rfl (by decide) (by decide) rfl r_mx_4 ?_
      refine ab_iconst (v := 3) d_M_spreads_37 rfl ?_
      refine ab_iload_n (i := 3) d_M_spreads_38 rfl rfl ?_
      refine ab_iadd d_M_spreads_39 ?_
      have g5 := h.1; have h := h.2
      refine ab_iald d_M_spreads_40 rfl rfl g5 ?_
      refine ab_iadd d_M_spreads_41 ?_
      refine ab_istore (i := 4) d_M_spreads_42 (by decide) (Or.inr rfl) ?_
      refine ab_bipush (v := 10) d_M_spreads_44 rfl ?_
      refine ab_iload_n (i := 1) d_M_spreads_46 rfl rfl ?_
      refine ab_imul d_M_spreads_47 ?_
      refine ab_aload_n (i := 0) d_M_spreads_48 rfl rfl ?_
      refine ab_getR (ci := 11) (k := 4) (j := mx_now) d_M_spreads_49 v_1372 rfl (by decide) (by decide) rfl r_mx_4 ?_
      refine ab_bipush (v := 27) d_M_spreads_52 rfl ?_
      refine ab_iload_n (i := 3) d_M_spreads_54 rfl rfl ?_
      refine ab_iadd d_M_spreads_55 ?_
      have g6 := h.1; have h := h.2
      refine ab_iald d_M_spreads_56 rfl rfl g6 ?_
      refine ab_iadd d_M_spreads_57 ?_
      refine ab_istore (i := 5) d_M_spreads_58 (by decide) (Or.inr rfl) ?_
      refine ab_aload_n (i := 0) d_M_spreads_60 rfl rfl ?_
      refine ab_iload (i := 4) d_M_spreads_61 rfl ?_
      refine ab_aload_n (i := 0) d_M_spreads_63 rfl rfl ?_
      refine ab_getR (ci := 11) (k := 40) (j := mx_joint) d_M_spreads_64 v_1408 rfl (by decide) (by decide) rfl r_mx_40 ?_
      refine ab_iload (i := 5) d_M_spreads_67 rfl ?_
      have g7 := h.1; have h := h.2
      refine ab_iald d_M_spreads_69 rfl rfl g7 ?_
      refine ab_aload_n (i := 0) d_M_spreads_70 rfl rfl ?_
      refine ab_iload_n (i := 3) d_M_spreads_71 rfl rfl ?_
      obtain ⟨r8, hC, h⟩ := h
      refine ab_callV (me2 := mt_M_priceOf) (b := mx) (as := [.int v3]) (st := [.int (I mx_joint ((10 * v1) + (I mx_now (27 + v3).toNatClampNeg)).toNatClampNeg), .int ((10 * v1) + (I mx_now (3 + v3).toNatClampNeg)), .ref mx]) (rv := (some (.int r8))) (M2 := (I, L, ab_RR, n, nc, ns)) d_M_spreads_72 ce_M_priceOf v_1654 v_1656 v_83 (by decide) rfl (by decide) hC (Nat.le_refl _) (Nat.le_refl _) hc hs (fun j h9 => by cases h9) (fun _ _ => rfl) ?_
      show ab_E w (d + 1) mt_M_spreads 75 [.ref mx, .int v1, .int v2, .int v3, .int ((10 * v1) + (I mx_now (3 + v3).toNatClampNeg)), .int ((10 * v1) + (I mx_now (27 + v3).toNatClampNeg))] [.int r8, .int (I mx_joint ((10 * v1) + (I mx_now (27 + v3).toNatClampNeg)).toNatClampNeg), .int ((10 * v1) + (I mx_now (3 + v3).toNatClampNeg)), .ref mx] (I, L, ab_RR, n, nc, ns) res
      refine ab_iadd d_M_spreads_75 ?_
      obtain ⟨r9, I10, hC, h⟩ := h
      refine ab_callV (me2 := mt_M_lessens) (b := mx) (as := [.int ((10 * v1) + (I mx_now (3 + v3).toNatClampNeg)), .int ((I mx_joint ((10 * v1) + (I mx_now (27 + v3).toNatClampNeg)).toNatClampNeg) + r8)]) (st := []) (rv := (some (.int r9))) (M2 := (I10, L, ab_RR, n, nc, ns)) d_M_spreads_76 ce_M_lessens v_1884 v_1886 v_126 (by decide) rfl (by decide) hC (Nat.le_refl _) (Nat.le_refl _) hc hs (fun j h9 => by cases h9) (fun _ _ => rfl) ?_
      show ab_E w (d + 1) mt_M_spreads 79 [.ref mx, .int v1, .int v2, .int v3, .int ((10 * v1) + (I mx_now (3 + v3).toNatClampNeg)), .int ((10 * v1) + (I mx_now (27 + v3).toNatClampNeg))] [.int r9] (I10, L, ab_RR, n, nc, ns) res
      refine ab_if_ne (tgt := 86) d_M_spreads_79 (by decide) (fun c11 => ?_) (fun c11 => ?_)
      · have h := h.1 c11
        exact h
      · have h := h.2 c11
        refine ab_iload_n (i := 2) d_M_spreads_82 rfl rfl ?_
        refine ab_if_eq (tgt := 90) d_M_spreads_83 (by decide) (fun c12 => ?_) (fun c12 => ?_)
        · have h := h.1 c12
          refine ab_iconst (v := 0) d_M_spreads_90 rfl ?_
          exact h
        · have h := h.2 c12
          exact h
    · have h := h.2 c4
      refine ab_goto (tgt := 124) d_M_spreads_26 (by decide) ?_
      exact h
theorem q_M_spreads_86 {w : ab_Wd} {d n nc ns : Nat} {I : Nat → Nat → Int32} {L : Nat → Nat → Int64} {res : ab_Re} (v1 : Int32) (v2 : Int32) (v3 : Int32) (v4 : Int32) (v5 : Int32) (hc : nc ≤ res.2.2.2.2.2.1) (hs : ns ≤ res.2.2.2.2.2.2)
    (h : ab_E w (d + 1) mt_M_spreads 91 [.ref mx, .int v1, .int v2, .int v3, .int v4, .int v5] [.int 1] (I, L, ab_RR, n, nc, ns) res) : ab_E w (d + 1) mt_M_spreads 86 [.ref mx, .int v1, .int v2, .int v3, .int v4, .int v5] [] (I, L, ab_RR, n, nc, ns) res := by
  refine ab_iconst (v := 1) d_M_spreads_86 rfl ?_
  refine ab_goto (tgt := 91) d_M_spreads_87 (by decide) ?_
  exact h
theorem q_M_spreads_91 {w : ab_Wd} {d n nc ns : Nat} {I : Nat → Nat → Int32} {L : Nat → Nat → Int64} {res : ab_Re} (v1 : Int32) (v2 : Int32) (v3 : Int32) (v4 : Int32) (v5 : Int32) (s0 : Int32) (hc : nc ≤ res.2.2.2.2.2.1) (hs : ns ≤ res.2.2.2.2.2.2)
    (h : (vp_in v4 10240) ∧ ∃ (r2 : Int32), ab_C w d mt_M_priceOf [.ref mx, .int v3] (I, L, ab_RR, n, nc, ns) (.inl (some (.int r2)), (I, L, ab_RR, n, nc, ns)) ∧ ∃ (r3 : Int32) (I4 : Nat → Nat → Int32), ab_C w d mt_M_lessens [.ref mx, .int v5, .int ((I mx_joint v4.toNatClampNeg) + r2)] (I, L, ab_RR, n, nc, ns) (.inl (some (.int r3)), (I4, L, ab_RR, n, nc, ns)) ∧ ((¬ r3 = 0 → (ab_E w (d + 1) mt_M_spreads 118 [.ref mx, .int v1, .int s0, .int v3, .int v4, .int v5] [] (I4, L, ab_RR, n, nc, ns) res)) ∧ (r3 = 0 → ((s0 = 0 → (ab_E w (d + 1) mt_M_spreads 123 [.ref mx, .int v1, .int s0, .int v3, .int v4, .int v5] [.int 0] (I4, L, ab_RR, n, nc, ns) res)) ∧ (¬ s0 = 0 → (ab_E w (d + 1) mt_M_spreads 118 [.ref mx, .int v1, .int s0, .int v3, .int v4, .int v5] [] (I4, L, ab_RR, n, nc, ns) res)))))) : ab_E w (d + 1) mt_M_spreads 91 [.ref mx, .int v1, .int v2, .int v3, .int v4, .int v5] [.int s0] (I, L, ab_RR, n, nc, ns) res := by
  refine ab_istore_n (i := 2) d_M_spreads_91 rfl (by decide) (Or.inr rfl) ?_
  refine ab_aload_n (i := 0) d_M_spreads_92 rfl rfl ?_
  refine ab_iload (i := 5) d_M_spreads_93 rfl ?_
  refine ab_aload_n (i := 0) d_M_spreads_95 rfl rfl ?_
  refine ab_getR (ci := 11) (k := 40) (j := mx_joint) d_M_spreads_96 v_1408 rfl (by decide) (by decide) rfl r_mx_40 ?_
  refine ab_iload (i := 4) d_M_spreads_99 rfl ?_
  have g1 := h.1; have h := h.2
  refine ab_iald d_M_spreads_101 rfl rfl g1 ?_
  refine ab_aload_n (i := 0) d_M_spreads_102 rfl rfl ?_
  refine ab_iload_n (i := 3) d_M_spreads_103 rfl rfl ?_
  obtain ⟨r2, hC, h⟩ := h
  refine ab_callV (me2 := mt_M_priceOf) (b := mx) (as := [.int v3]) (st := [.int (I mx_joint v4.toNatClampNeg), .int v5, .ref mx]) (rv := (some (.int r2))) (M2 := (I, L, ab_RR, n, nc, ns)) d_M_spreads_104 ce_M_priceOf v_1654 v_1656 v_83 (by decide) rfl (by decide) hC (Nat.le_refl _) (Nat.le_refl _) hc hs (fun j h9 => by cases h9) (fun _ _ => rfl) ?_
  show ab_E w (d + 1) mt_M_spreads 107 [.ref mx, .int v1, .int s0, .int v3, .int v4, .int v5] [.int r2, .int (I mx_joint v4.toNatClampNeg), .int v5, .ref mx] (I, L, ab_RR, n, nc, ns) res
  refine ab_iadd d_M_spreads_107 ?_
  obtain ⟨r3, I4, hC, h⟩ := h
  refine ab_callV (me2 := mt_M_lessens) (b := mx) (as := [.int v5, .int ((I mx_joint v4.toNatClampNeg) + r2)]) (st := []) (rv := (some (.int r3))) (M2 := (I4, L, ab_RR, n, nc, ns)) d_M_spreads_108 ce_M_lessens v_1884 v_1886 v_126 (by decide) rfl (by decide) hC (Nat.le_refl _) (Nat.le_refl _) hc hs (fun j h9 => by cases h9) (fun _ _ => rfl) ?_
  show ab_E w (d + 1) mt_M_spreads 111 [.ref mx, .int v1, .int s0, .int v3, .int v4, .int v5] [.int r3] (I4, L, ab_RR, n, nc, ns) res
  refine ab_if_ne (tgt := 118) d_M_spreads_111 (by decide) (fun c5 => ?_) (fun c5 => ?_)
  · have h := h.1 c5
    exact h
  · have h := h.2 c5
    refine ab_iload_n (i := 2) d_M_spreads_114 rfl rfl ?_
    refine ab_if_eq (tgt := 122) d_M_spreads_115 (by decide) (fun c6 => ?_) (fun c6 => ?_)
    · have h := h.1 c6
      refine ab_iconst (v := 0) d_M_spreads_122 rfl ?_
      exact h
    · have h := h.2 c6
      exact h
theorem q_M_spreads_118 {w : ab_Wd} {d n nc ns : Nat} {I : Nat → Nat → Int32} {L : Nat → Nat → Int64} {res : ab_Re} (v1 : Int32) (v2 : Int32) (v3 : Int32) (v4 : Int32) (v5 : Int32) (hc : nc ≤ res.2.2.2.2.2.1) (hs : ns ≤ res.2.2.2.2.2.2)
    (h : ab_E w (d + 1) mt_M_spreads 123 [.ref mx, .int v1, .int v2, .int v3, .int v4, .int v5] [.int 1] (I, L, ab_RR, n, nc, ns) res) : ab_E w (d + 1) mt_M_spreads 118 [.ref mx, .int v1, .int v2, .int v3, .int v4, .int v5] [] (I, L, ab_RR, n, nc, ns) res := by
  refine ab_iconst (v := 1) d_M_spreads_118 rfl ?_
  refine ab_goto (tgt := 123) d_M_spreads_119 (by decide) ?_
  exact h
theorem q_M_spreads_123 {w : ab_Wd} {d n nc ns : Nat} {I : Nat → Nat → Int32} {L : Nat → Nat → Int64} {res : ab_Re} (v1 : Int32) (v2 : Int32) (v3 : Int32) (v4 : Int32) (v5 : Int32) (s0 : Int32) (hc : nc ≤ res.2.2.2.2.2.1) (hs : ns ≤ res.2.2.2.2.2.2)
    (h : ab_E w (d + 1) mt_M_spreads 124 [.ref mx, .int v1, .int s0, .int v3, .null, .null] [] (I, L, ab_RR, n, nc, ns) res) : ab_E w (d + 1) mt_M_spreads 123 [.ref mx, .int v1, .int v2, .int v3, .int v4, .int v5] [.int s0] (I, L, ab_RR, n, nc, ns) res := by
  refine ab_istore_n (i := 2) d_M_spreads_123 rfl (by decide) (Or.inr rfl) ?_
  refine ab_drop 4 ?_
  refine ab_drop 5 ?_
  exact h
theorem q_M_spreads_124 {w : ab_Wd} {d n nc ns : Nat} {I : Nat → Nat → Int32} {L : Nat → Nat → Int64} {res : ab_Re} (v1 : Int32) (v2 : Int32) (v3 : Int32) (hc : nc ≤ res.2.2.2.2.2.1) (hs : ns ≤ res.2.2.2.2.2.2)
    (h : ab_E w (d + 1) mt_M_spreads 10 [.ref mx, .int v1, .int v2, .int (v3 + 1), .null, .null] [] (I, L, ab_RR, n, nc, ns) res) : ab_E w (d + 1) mt_M_spreads 124 [.ref mx, .int v1, .int v2, .int v3, .null, .null] [] (I, L, ab_RR, n, nc, ns) res := by
  refine ab_iinc (i := 3) (v := (v3 + 1)) d_M_spreads_124 rfl rfl (by decide) (Or.inr rfl) ?_
  refine ab_goto (tgt := 10) d_M_spreads_127 (by decide) ?_
  exact h
