theorem d_M_all_0 : decode (ab_bc mt_M_all) 0 = .ok (.aload_n 0, 1) := by decide +kernel
theorem d_M_all_1 : decode (ab_bc mt_M_all) 1 = .ok (.iconst 0, 1) := by decide +kernel
theorem d_M_all_2 : decode (ab_bc mt_M_all) 2 = .ok (.putfield 108, 3) := by decide +kernel
theorem d_M_all_5 : decode (ab_bc mt_M_all) 5 = .ok (.iload_n 1, 1) := by decide +kernel
theorem d_M_all_6 : decode (ab_bc mt_M_all) 6 = .ok (.iconst 0, 1) := by decide +kernel
theorem d_M_all_7 : decode (ab_bc mt_M_all) 7 = .ok (.iconst 3, 1) := by decide +kernel
theorem d_M_all_8 : decode (ab_bc mt_M_all) 8 = .ok (.invokestatic 344, 3) := by decide +kernel
theorem d_M_all_11 : decode (ab_bc mt_M_all) 11 = .ok (.ifCond .eq 22, 3) := by decide +kernel
theorem d_M_all_14 : decode (ab_bc mt_M_all) 14 = .ok (.iload_n 2, 1) := by decide +kernel
theorem d_M_all_15 : decode (ab_bc mt_M_all) 15 = .ok (.bipush (-50), 2) := by decide +kernel
theorem d_M_all_17 : decode (ab_bc mt_M_all) 17 = .ok (.bipush 100, 2) := by decide +kernel
theorem d_M_all_19 : decode (ab_bc mt_M_all) 19 = .ok (.invokestatic 344, 3) := by decide +kernel
theorem d_M_all_22 : decode (ab_bc mt_M_all) 22 = .ok (.ifCond .eq 11, 3) := by decide +kernel
theorem d_M_all_25 : decode (ab_bc mt_M_all) 25 = .ok (.aload_n 0, 1) := by decide +kernel
theorem d_M_all_26 : decode (ab_bc mt_M_all) 26 = .ok (.iload_n 1, 1) := by decide +kernel
theorem d_M_all_27 : decode (ab_bc mt_M_all) 27 = .ok (.invokevirtual 443, 3) := by decide +kernel
theorem d_M_all_30 : decode (ab_bc mt_M_all) 30 = .ok (.ifCond .ne 9, 3) := by decide +kernel
theorem d_M_all_33 : decode (ab_bc mt_M_all) 33 = .ok (.aload_n 0, 1) := by decide +kernel
theorem d_M_all_34 : decode (ab_bc mt_M_all) 34 = .ok (.iconst 1, 1) := by decide +kernel
theorem d_M_all_35 : decode (ab_bc mt_M_all) 35 = .ok (.invokevirtual 434, 3) := by decide +kernel
theorem d_M_all_38 : decode (ab_bc mt_M_all) 38 = .ok (.ireturn, 1) := by decide +kernel
theorem d_M_all_39 : decode (ab_bc mt_M_all) 39 = .ok (.aload_n 0, 1) := by decide +kernel
theorem d_M_all_40 : decode (ab_bc mt_M_all) 40 = .ok (.invokevirtual 437, 3) := by decide +kernel
theorem d_M_all_43 : decode (ab_bc mt_M_all) 43 = .ok (.iconst 0, 1) := by decide +kernel
theorem d_M_all_44 : decode (ab_bc mt_M_all) 44 = .ok (.istore_n 3, 1) := by decide +kernel
theorem d_M_all_45 : decode (ab_bc mt_M_all) 45 = .ok (.iload_n 3, 1) := by decide +kernel
theorem d_M_all_46 : decode (ab_bc mt_M_all) 46 = .ok (.aload_n 0, 1) := by decide +kernel
theorem d_M_all_47 : decode (ab_bc mt_M_all) 47 = .ok (.invokevirtual 234, 3) := by decide +kernel
theorem d_M_all_50 : decode (ab_bc mt_M_all) 50 = .ok (.if_icmp .ge 50, 3) := by decide +kernel
theorem d_M_all_53 : decode (ab_bc mt_M_all) 53 = .ok (.aload_n 0, 1) := by decide +kernel
theorem d_M_all_54 : decode (ab_bc mt_M_all) 54 = .ok (.getfield 24, 3) := by decide +kernel
theorem d_M_all_57 : decode (ab_bc mt_M_all) 57 = .ok (.bipush 75, 2) := by decide +kernel
theorem d_M_all_59 : decode (ab_bc mt_M_all) 59 = .ok (.iload_n 3, 1) := by decide +kernel
theorem d_M_all_60 : decode (ab_bc mt_M_all) 60 = .ok (.iadd, 1) := by decide +kernel
theorem d_M_all_61 : decode (ab_bc mt_M_all) 61 = .ok (.iaload, 1) := by decide +kernel
theorem d_M_all_62 : decode (ab_bc mt_M_all) 62 = .ok (.iload_n 1, 1) := by decide +kernel
theorem d_M_all_63 : decode (ab_bc mt_M_all) 63 = .ok (.if_icmp .ne 31, 3) := by decide +kernel
theorem d_M_all_66 : decode (ab_bc mt_M_all) 66 = .ok (.aload_n 0, 1) := by decide +kernel
theorem d_M_all_67 : decode (ab_bc mt_M_all) 67 = .ok (.iload_n 3, 1) := by decide +kernel
theorem d_M_all_68 : decode (ab_bc mt_M_all) 68 = .ok (.iconst 1, 1) := by decide +kernel
theorem d_M_all_69 : decode (ab_bc mt_M_all) 69 = .ok (.sipush 999, 3) := by decide +kernel
theorem d_M_all_72 : decode (ab_bc mt_M_all) 72 = .ok (.aload_n 0, 1) := by decide +kernel
theorem d_M_all_73 : decode (ab_bc mt_M_all) 73 = .ok (.iload_n 3, 1) := by decide +kernel
theorem d_M_all_74 : decode (ab_bc mt_M_all) 74 = .ok (.invokevirtual 222, 3) := by decide +kernel
theorem d_M_all_77 : decode (ab_bc mt_M_all) 77 = .ok (.bipush 100, 2) := by decide +kernel
theorem d_M_all_79 : decode (ab_bc mt_M_all) 79 = .ok (.iload_n 2, 1) := by decide +kernel
theorem d_M_all_80 : decode (ab_bc mt_M_all) 80 = .ok (.iadd, 1) := by decide +kernel
theorem d_M_all_81 : decode (ab_bc mt_M_all) 81 = .ok (.imul, 1) := by decide +kernel
theorem d_M_all_82 : decode (ab_bc mt_M_all) 82 = .ok (.bipush 100, 2) := by decide +kernel
theorem d_M_all_84 : decode (ab_bc mt_M_all) 84 = .ok (.idiv, 1) := by decide +kernel
theorem d_M_all_85 : decode (ab_bc mt_M_all) 85 = .ok (.invokestatic 141, 3) := by decide +kernel
theorem d_M_all_88 : decode (ab_bc mt_M_all) 88 = .ok (.invokestatic 225, 3) := by decide +kernel
theorem d_M_all_91 : decode (ab_bc mt_M_all) 91 = .ok (.invokevirtual 440, 3) := by decide +kernel
theorem d_M_all_94 : decode (ab_bc mt_M_all) 94 = .ok (.iinc 3 1, 3) := by decide +kernel
theorem d_M_all_97 : decode (ab_bc mt_M_all) 97 = .ok (.goto (-52), 3) := by decide +kernel
theorem d_M_all_100 : decode (ab_bc mt_M_all) 100 = .ok (.aload_n 0, 1) := by decide +kernel
theorem d_M_all_101 : decode (ab_bc mt_M_all) 101 = .ok (.invokevirtual 294, 3) := by decide +kernel
theorem d_M_all_104 : decode (ab_bc mt_M_all) 104 = .ok (.ireturn, 1) := by decide +kernel
-- CableKeeperModel.all(II)I over mx
theorem q_M_all_0 {w : ab_Wd} {d n nc ns : Nat} {I : Nat → Nat → Int32} {L : Nat → Nat → Int64} {res : ab_Re} (v1 : Int32) (v2 : Int32) (hc : nc ≤ res.2.2.2.2.2.1) (hs : ns ≤ res.2.2.2.2.2.2)
    (h : ∃ (r1 : Int32), ab_C w d mt_M_isIn [.int v1, .int 0, .int 3] ((ab_up I mx 1 0), L, ab_RR, n, nc, ns) (.inl (some (.int r1)), ((ab_up I mx 1 0), L, ab_RR, n, nc, ns)) ∧ ((r1 = 0 → (ab_E w (d + 1) mt_M_all 33 [.ref mx, .int v1, .int v2, .null] [] ((ab_up I mx 1 0), L, ab_RR, n, nc, ns) res)) ∧ (¬ r1 = 0 → (∃ (r3 : Int32), ab_C w d mt_M_isIn [.int v2, .int (-50), .int 100] ((ab_up I mx 1 0), L, ab_RR, n, nc, ns) (.inl (some (.int r3)), ((ab_up I mx 1 0), L, ab_RR, n, nc, ns)) ∧ ((r3 = 0 → (ab_E w (d + 1) mt_M_all 33 [.ref mx, .int v1, .int v2, .null] [] ((ab_up I mx 1 0), L, ab_RR, n, nc, ns) res)) ∧ (¬ r3 = 0 → (∃ (r5 : Int32), ab_C w d mt_M_hasCables [.ref mx, .int v1] ((ab_up I mx 1 0), L, ab_RR, n, nc, ns) (.inl (some (.int r5)), ((ab_up I mx 1 0), L, ab_RR, n, nc, ns)) ∧ ((¬ r5 = 0 → (∃ (I8 : Nat → Nat → Int32), ab_C w d mt_M_keep [.ref mx] ((ab_up I mx 1 0), L, ab_RR, n, nc, ns) (.inl none, (I8, L, ab_RR, n, nc, ns)) ∧ ab_E w (d + 1) mt_M_all 45 [.ref mx, .int v1, .int v2, .int 0] [] (I8, L, ab_RR, n, nc, ns) res)) ∧ (r5 = 0 → (ab_E w (d + 1) mt_M_all 33 [.ref mx, .int v1, .int v2, .null] [] ((ab_up I mx 1 0), L, ab_RR, n, nc, ns) res)))))))))) : ab_E w (d + 1) mt_M_all 0 [.ref mx, .int v1, .int v2, .null] [] (I, L, ab_RR, n, nc, ns) res := by
  refine ab_aload_n (i := 0) d_M_all_0 rfl rfl ?_
  refine ab_iconst (v := 0) d_M_all_1 rfl ?_
  refine ab_putI (ci := 11) (k := 1) d_M_all_2 v_1369 rfl (by decide) (by decide) rfl (Or.inl rfl) rfl rfl ?_
  refine ab_iload_n (i := 1) d_M_all_5 rfl rfl ?_
  refine ab_iconst (v := 0) d_M_all_6 rfl ?_
  refine ab_iconst (v := 3) d_M_all_7 rfl ?_
  obtain ⟨r1, hC, h⟩ := h
  refine ab_callS (me2 := mt_M_isIn) (as := [.int v1, .int 0, .int 3]) (st := []) (rv := (some (.int r1))) (M2 := ((ab_up I mx 1 0), L, ab_RR, n, nc, ns)) d_M_all_8 ce_M_isIn ⟨v_1753, Or.inl v_1752⟩ (Nat.le_of_ble_eq_true rfl) hC (Nat.le_refl _) (Nat.le_refl _) hc hs (fun j h9 => by cases h9) (fun _ _ => rfl) ?_
  show ab_E w (d + 1) mt_M_all 11 [.ref mx, .int v1, .int v2, .null] [.int r1] ((ab_up I mx 1 0), L, ab_RR, n, nc, ns) res
  refine ab_if_eq (tgt := 33) d_M_all_11 (by decide) (fun c2 => ?_) (fun c2 => ?_)
  · have h := h.1 c2
    exact h
  · have h := h.2 c2
    refine ab_iload_n (i := 2) d_M_all_14 rfl rfl ?_
    refine ab_bipush (v := (-50)) d_M_all_15 rfl ?_
    refine ab_bipush (v := 100) d_M_all_17 rfl ?_
    obtain ⟨r3, hC, h⟩ := h
    refine ab_callS (me2 := mt_M_isIn) (as := [.int v2, .int (-50), .int 100]) (st := []) (rv := (some (.int r3))) (M2 := ((ab_up I mx 1 0), L, ab_RR, n, nc, ns)) d_M_all_19 ce_M_isIn ⟨v_1753, Or.inl v_1752⟩ (Nat.le_of_ble_eq_true rfl) hC (Nat.le_refl _) (Nat.le_refl _) hc hs (fun j h9 => by cases h9) (fun _ _ => rfl) ?_
    show ab_E w (d + 1) mt_M_all 22 [.ref mx, .int v1, .int v2, .null] [.int r3] ((ab_up I mx 1 0), L, ab_RR, n, nc, ns) res
    refine ab_if_eq (tgt := 33) d_M_all_22 (by decide) (fun c4 => ?_) (fun c4 => ?_)
    · have h := h.1 c4
      exact h
    · have h := h.2 c4
      refine ab_aload_n (i := 0) d_M_all_25 rfl rfl ?_
      refine ab_iload_n (i := 1) d_M_all_26 rfl rfl ?_
      obtain ⟨r5, hC, h⟩ := h
      refine ab_callV (me2 := mt_M_hasCables) (b := mx) (as := [.int v1]) (st := []) (rv := (some (.int r5))) (M2 := ((ab_up I mx 1 0), L, ab_RR, n, nc, ns)) d_M_all_27 ce_M_hasCables v_1924 v_1926 v_132 (by decide) rfl (Nat.le_of_ble_eq_true rfl) hC (Nat.le_refl _) (Nat.le_refl _) hc hs (fun j h9 => by cases h9) (fun _ _ => rfl) ?_
      show ab_E w (d + 1) mt_M_all 30 [.ref mx, .int v1, .int v2, .null] [.int r5] ((ab_up I mx 1 0), L, ab_RR, n, nc, ns) res
      refine ab_if_ne (tgt := 39) d_M_all_30 (by decide) (fun c6 => ?_) (fun c6 => ?_)
      · have h := h.1 c6
        refine ab_aload_n (i := 0) d_M_all_39 rfl rfl ?_
        obtain ⟨I8, hC, h⟩ := h
        refine ab_callV (me2 := mt_M_keep) (b := mx) (as := []) (st := []) (rv := none) (M2 := (I8, L, ab_RR, n, nc, ns)) d_M_all_40 ce_M_keep v_1904 v_1906 v_129 (by decide) rfl (Nat.le_of_ble_eq_true rfl) hC (Nat.le_refl _) (Nat.le_refl _) hc hs (fun j h9 => by cases h9) (fun _ _ => rfl) ?_
        show ab_E w (d + 1) mt_M_all 43 [.ref mx, .int v1, .int v2, .null] [] (I8, L, ab_RR, n, nc, ns) res
        refine ab_iconst (v := 0) d_M_all_43 rfl ?_
        refine ab_istore_n (i := 3) d_M_all_44 rfl (by decide) (Or.inr rfl) ?_
        exact h
      · have h := h.2 c6
        exact h
theorem q_M_all_33 {w : ab_Wd} {d n nc ns : Nat} {I : Nat → Nat → Int32} {L : Nat → Nat → Int64} {res : ab_Re} (v1 : Int32) (v2 : Int32) (hc : nc ≤ res.2.2.2.2.2.1) (hs : ns ≤ res.2.2.2.2.2.2)
    (h : ∃ (r1 : Int32) (I2 : Nat → Nat → Int32), ab_C w d mt_M_refuse [.ref mx, .int 1] (I, L, ab_RR, n, nc, ns) (.inl (some (.int r1)), (I2, L, ab_RR, n, nc, ns)) ∧ res = (.inl (some (.int r1)), (I2, L, ab_RR, n, nc, ns))) : ab_E w (d + 1) mt_M_all 33 [.ref mx, .int v1, .int v2, .null] [] (I, L, ab_RR, n, nc, ns) res := by
  refine ab_aload_n (i := 0) d_M_all_33 rfl rfl ?_
  refine ab_iconst (v := 1) d_M_all_34 rfl ?_
  obtain ⟨r1, I2, hC, h⟩ := h
  refine ab_callV (me2 := mt_M_refuse) (b := mx) (as := [.int 1]) (st := []) (rv := (some (.int r1))) (M2 := (I2, L, ab_RR, n, nc, ns)) d_M_all_35 ce_M_refuse v_1900 v_1902 v_128 (by decide) rfl (Nat.le_of_ble_eq_true rfl) hC (Nat.le_refl _) (Nat.le_refl _) hc hs (fun j h9 => by cases h9) (fun _ _ => rfl) ?_
  show ab_E w (d + 1) mt_M_all 38 [.ref mx, .int v1, .int v2, .null] [.int r1] (I2, L, ab_RR, n, nc, ns) res
  exact ab_iret (ty := .int) d_M_all_38 rfl rfl h
theorem q_M_all_45 {w : ab_Wd} {d n nc ns : Nat} {I : Nat → Nat → Int32} {L : Nat → Nat → Int64} {res : ab_Re} (v1 : Int32) (v2 : Int32) (v3 : Int32) (hc : nc ≤ res.2.2.2.2.2.1) (hs : ns ≤ res.2.2.2.2.2.2)
    (h : ∃ (r1 : Int32), ab_C w d mt_M_many [.ref mx] (I, L, ab_RR, n, nc, ns) (.inl (some (.int r1)), (I, L, ab_RR, n, nc, ns)) ∧ ((r1 ≤ v3 → (∃ (r3 : Int32) (I4 : Nat → Nat → Int32), ab_C w d mt_M_totalNow [.ref mx] (I, L, ab_RR, n, nc, ns) (.inl (some (.int r3)), (I4, L, ab_RR, n, nc, ns)) ∧ res = (.inl (some (.int r3)), (I4, L, ab_RR, n, nc, ns)))) ∧ (¬ r1 ≤ v3 → ((vp_in (75 + v3) 399) ∧ ((¬ (I mx_now (75 + v3).toNatClampNeg) = v1 → (ab_E w (d + 1) mt_M_all 94 [.ref mx, .int v1, .int v2, .int v3] [] (I, L, ab_RR, n, nc, ns) res)) ∧ ((I mx_now (75 + v3).toNatClampNeg) = v1 → (∃ (r7 : Int32), ab_C w d mt_M_priceOf [.ref mx, .int v3] (I, L, ab_RR, n, nc, ns) (.inl (some (.int r7)), (I, L, ab_RR, n, nc, ns)) ∧ ∃ (I9 : Nat → Nat → Int32), ab_C w d mt_M_pricesNow [.ref mx, .int v3, .int (ab_max32 1 (ab_min32 999 ((r7 * (100 + v2)) / 100)))] (I, L, ab_RR, n, nc, ns) (.inl none, (I9, L, ab_RR, n, nc, ns)) ∧ ab_E w (d + 1) mt_M_all 94 [.ref mx, .int v1, .int v2, .int v3] [] (I9, L, ab_RR, n, nc, ns) res))))))) : ab_E w (d + 1) mt_M_all 45 [.ref mx, .int v1, .int v2, .int v3] [] (I, L, ab_RR, n, nc, ns) res := by
  refine ab_iload_n (i := 3) d_M_all_45 rfl rfl ?_
  refine ab_aload_n (i := 0) d_M_all_46 rfl rfl ?_
  obtain ⟨r1, hC, h⟩ := h
  refine ab_callV (me2 := mt_M_many) (b := mx) (as := []) (st := [.int v3]) (rv := (some (.int r1))) (M2 := (I, L, ab_RR, n, nc, ns)) d_M_all_47 ce_M_many v_1635 v_1637 v_79 (by decide) rfl (Nat.le_of_ble_eq_true rfl) hC (Nat.le_refl _) (Nat.le_refl _) hc hs (fun j h9 => by cases h9) (fun _ _ => rfl) ?_
  show ab_E w (d + 1) mt_M_all 50 [.ref mx, .int v1, .int v2, .int v3] [.int r1, .int v3] (I, L, ab_RR, n, nc, ns) res
  refine ab_icmp_ge (tgt := 100) d_M_all_50 (by decide) (fun c2 => ?_) (fun c2 => ?_)
  · have h := h.1 c2
    refine ab_aload_n (i := 0) d_M_all_100 rfl rfl ?_
    obtain ⟨r3, I4, hC, h⟩ := h
    refine ab_callV (me2 := mt_M_totalNow) (b := mx) (as := []) (st := []) (rv := (some (.int r3))) (M2 := (I4, L, ab_RR, n, nc, ns)) d_M_all_101 ce_M_totalNow v_1663 v_1665 v_85 (by decide) rfl (Nat.le_of_ble_eq_true rfl) hC (Nat.le_refl _) (Nat.le_refl _) hc hs (fun j h9 => by cases h9) (fun _ _ => rfl) ?_
    show ab_E w (d + 1) mt_M_all 104 [.ref mx, .int v1, .int v2, .int v3] [.int r3] (I4, L, ab_RR, n, nc, ns) res
    exact ab_iret (ty := .int) d_M_all_104 rfl rfl h
  · have h := h.2 c2
    refine ab_aload_n (i := 0) d_M_all_53 rfl rfl ?_
    refine ab_getR (ci := 11) (k := 4) (j := mx_now) d_M_all_54 v_1372 rfl (by decide) (by decide) rfl r_mx_4 ?_
    refine ab_bipush (v := 75) d_M_all_57 rfl ?_
    refine ab_iload_n (i := 3) d_M_all_59 rfl rfl ?_
    refine ab_iadd d_M_all_60 ?_
    have g5 := h.1; have h := h.2
    refine ab_iald d_M_all_61 rfl rfl g5 ?_
    refine ab_iload_n (i := 1) d_M_all_62 rfl rfl ?_
    refine ab_icmp_ne (tgt := 94) d_M_all_63 (by decide) (fun c6 => ?_) (fun c6 => ?_)
    · have h := h.1 c6
      exact h
    · have h := h.2 c6
      refine ab_aload_n (i := 0) d_M_all_66 rfl rfl ?_
      refine ab_iload_n (i := 3) d_M_all_67 rfl rfl ?_
      refine ab_iconst (v := 1) d_M_all_68 rfl ?_
      refine ab_sipush (v := 999) d_M_all_69 rfl ?_
      refine ab_aload_n (i := 0) d_M_all_72 rfl rfl ?_
      refine ab_iload_n (i := 3) d_M_all_73 rfl rfl ?_
      obtain ⟨r7, hC, h⟩ := h
      refine ab_callV (me2 := mt_M_priceOf) (b := mx) (as := [.int v3]) (st := [.int 999, .int 1, .int v3, .ref mx]) (rv := (some (.int r7))) (M2 := (I, L, ab_RR, n, nc, ns)) d_M_all_74 ce_M_priceOf v_1654 v_1656 v_83 (by decide) rfl (Nat.le_of_ble_eq_true rfl) hC (Nat.le_refl _) (Nat.le_refl _) hc hs (fun j h9 => by cases h9) (fun _ _ => rfl) ?_
      show ab_E w (d + 1) mt_M_all 77 [.ref mx, .int v1, .int v2, .int v3] [.int r7, .int 999, .int 1, .int v3, .ref mx] (I, L, ab_RR, n, nc, ns) res
      refine ab_bipush (v := 100) d_M_all_77 rfl ?_
      refine ab_iload_n (i := 2) d_M_all_79 rfl rfl ?_
      refine ab_iadd d_M_all_80 ?_
      refine ab_imul d_M_all_81 ?_
      refine ab_bipush (v := 100) d_M_all_82 rfl ?_
      refine ab_idiv d_M_all_84 (by decide) ?_
      refine ab_min d_M_all_85 v_1581 v_448 v_150 v_449 (Nat.succ_le_succ (Nat.zero_le _)) (Nat.le_of_ble_eq_true rfl) hc hs ?_
      refine ab_max d_M_all_88 v_1662 v_451 v_150 v_452 (Nat.succ_le_succ (Nat.zero_le _)) (Nat.le_of_ble_eq_true rfl) hc hs ?_
      obtain ⟨I9, hC, h⟩ := h
      refine ab_callV (me2 := mt_M_pricesNow) (b := mx) (as := [.int v3, .int (ab_max32 1 (ab_min32 999 ((r7 * (100 + v2)) / 100)))]) (st := []) (rv := none) (M2 := (I9, L, ab_RR, n, nc, ns)) d_M_all_91 ce_M_pricesNow v_1908 v_1910 v_130 (by decide) rfl (Nat.le_of_ble_eq_true rfl) hC (Nat.le_refl _) (Nat.le_refl _) hc hs (fun j h9 => by cases h9) (fun _ _ => rfl) ?_
      show ab_E w (d + 1) mt_M_all 94 [.ref mx, .int v1, .int v2, .int v3] [] (I9, L, ab_RR, n, nc, ns) res
      exact h
theorem q_M_all_94 {w : ab_Wd} {d n nc ns : Nat} {I : Nat → Nat → Int32} {L : Nat → Nat → Int64} {res : ab_Re} (v1 : Int32) (v2 : Int32) (v3 : Int32) (hc : nc ≤ res.2.2.2.2.2.1) (hs : ns ≤ res.2.2.2.2.2.2)
    (h : ab_E w (d + 1) mt_M_all 45 [.ref mx, .int v1, .int v2, .int (v3 + 1)] [] (I, L, ab_RR, n, nc, ns) res) : ab_E w (d + 1) mt_M_all 94 [.ref mx, .int v1, .int v2, .int v3] [] (I, L, ab_RR, n, nc, ns) res := by
  refine ab_iinc (i := 3) (v := (v3 + 1)) d_M_all_94 rfl rfl (by decide) (Or.inr rfl) ?_
  refine ab_goto (tgt := 45) d_M_all_97 (by decide) ?_
  exact h
theorem d_M_turns_0 : decode (ab_bc mt_M_turns) 0 = .ok (.aload_n 0, 1) := by decide +kernel
theorem d_M_turns_1 : decode (ab_bc mt_M_turns) 1 = .ok (.iconst 0, 1) := by decide +kernel
theorem d_M_turns_2 : decode (ab_bc mt_M_turns) 2 = .ok (.putfield 108, 3) := by decide +kernel
theorem d_M_turns_5 : decode (ab_bc mt_M_turns) 5 = .ok (.aload_n 0, 1) := by decide +kernel
theorem d_M_turns_6 : decode (ab_bc mt_M_turns) 6 = .ok (.iload_n 1, 1) := by decide +kernel
theorem d_M_turns_7 : decode (ab_bc mt_M_turns) 7 = .ok (.invokevirtual 348, 3) := by decide +kernel
theorem d_M_turns_10 : decode (ab_bc mt_M_turns) 10 = .ok (.ifCond .eq 12, 3) := by decide +kernel
theorem d_M_turns_13 : decode (ab_bc mt_M_turns) 13 = .ok (.aload_n 0, 1) := by decide +kernel
theorem d_M_turns_14 : decode (ab_bc mt_M_turns) 14 = .ok (.iload_n 1, 1) := by decide +kernel
theorem d_M_turns_15 : decode (ab_bc mt_M_turns) 15 = .ok (.invokevirtual 262, 3) := by decide +kernel
theorem d_M_turns_18 : decode (ab_bc mt_M_turns) 18 = .ok (.iload_n 2, 1) := by decide +kernel
theorem d_M_turns_19 : decode (ab_bc mt_M_turns) 19 = .ok (.if_icmp .eq 9, 3) := by decide +kernel
theorem d_M_turns_22 : decode (ab_bc mt_M_turns) 22 = .ok (.aload_n 0, 1) := by decide +kernel
theorem d_M_turns_23 : decode (ab_bc mt_M_turns) 23 = .ok (.iconst 1, 1) := by decide +kernel
theorem d_M_turns_24 : decode (ab_bc mt_M_turns) 24 = .ok (.invokevirtual 434, 3) := by decide +kernel
theorem d_M_turns_27 : decode (ab_bc mt_M_turns) 27 = .ok (.ireturn, 1) := by decide +kernel
theorem d_M_turns_28 : decode (ab_bc mt_M_turns) 28 = .ok (.aload_n 0, 1) := by decide +kernel
theorem d_M_turns_29 : decode (ab_bc mt_M_turns) 29 = .ok (.invokevirtual 437, 3) := by decide +kernel
theorem d_M_turns_32 : decode (ab_bc mt_M_turns) 32 = .ok (.aload_n 0, 1) := by decide +kernel
theorem d_M_turns_33 : decode (ab_bc mt_M_turns) 33 = .ok (.iload_n 1, 1) := by decide +kernel
theorem d_M_turns_34 : decode (ab_bc mt_M_turns) 34 = .ok (.invokevirtual 446, 3) := by decide +kernel
theorem d_M_turns_37 : decode (ab_bc mt_M_turns) 37 = .ok (.aload_n 0, 1) := by decide +kernel
theorem d_M_turns_38 : decode (ab_bc mt_M_turns) 38 = .ok (.invokevirtual 297, 3) := by decide +kernel
theorem d_M_turns_41 : decode (ab_bc mt_M_turns) 41 = .ok (.ireturn, 1) := by decide +kernel
-- CableKeeperModel.turns(IZ)I over mx
theorem q_M_turns_0 {w : ab_Wd} {d n nc ns : Nat} {I : Nat → Nat → Int32} {L : Nat → Nat → Int64} {res : ab_Re} (v1 : Int32) (v2 : Int32) (hc : nc ≤ res.2.2.2.2.2.1) (hs : ns ≤ res.2.2.2.2.2.2)
    (h : ∃ (r1 : Int32), ab_C w d mt_M_isCable [.ref mx, .int v1] ((ab_up I mx 1 0), L, ab_RR, n, nc, ns) (.inl (some (.int r1)), ((ab_up I mx 1 0), L, ab_RR, n, nc, ns)) ∧ ((r1 = 0 → (ab_E w (d + 1) mt_M_turns 22 [.ref mx, .int v1, .int v2] [] ((ab_up I mx 1 0), L, ab_RR, n, nc, ns) res)) ∧ (¬ r1 = 0 → (∃ (r3 : Int32), ab_C w d mt_M_isSound [.ref mx, .int v1] ((ab_up I mx 1 0), L, ab_RR, n, nc, ns) (.inl (some (.int r3)), ((ab_up I mx 1 0), L, ab_RR, n, nc, ns)) ∧ ((r3 = v2 → (∃ (I6 : Nat → Nat → Int32), ab_C w d mt_M_keep [.ref mx] ((ab_up I mx 1 0), L, ab_RR, n, nc, ns) (.inl none, (I6, L, ab_RR, n, nc, ns)) ∧ ∃ (I8 : Nat → Nat → Int32), ab_C w d mt_M_turnsNow [.ref mx, .int v1] (I6, L, ab_RR, n, nc, ns) (.inl none, (I8, L, ab_RR, n, nc, ns)) ∧ ∃ (r9 : Int32) (I10 : Nat → Nat → Int32), ab_C w d mt_M_piecesNow [.ref mx] (I8, L, ab_RR, n, nc, ns) (.inl (some (.int r9)), (I10, L, ab_RR, n, nc, ns)) ∧ res = (.inl (some (.int r9)), (I10, L, ab_RR, n, nc, ns)))) ∧ (¬ r3 = v2 → (ab_E w (d + 1) mt_M_turns 22 [.ref mx, .int v1, .int v2] [] ((ab_up I mx 1 0), L, ab_RR, n, nc, ns) res))))))) : ab_E w (d + 1) mt_M_turns 0 [.ref mx, .int v1, .int v2] [] (I, L, ab_RR, n, nc, ns) res := by
  refine ab_aload_n (i := 0) d_M_turns_0 rfl rfl ?_
  refine ab_iconst (v := 0) d_M_turns_1 rfl ?_
  refine ab_putI (ci := 11) (k := 1) d_M_turns_2 v_1369 rfl (by decide) (by decide) rfl (Or.inl rfl) rfl rfl ?_
  refine ab_aload_n (i := 0) d_M_turns_5 rfl rfl ?_
  refine ab_iload_n (i := 1) d_M_turns_6 rfl rfl ?_
  obtain ⟨r1, hC, h⟩ := h
  refine ab_callV (me2 := mt_M_isCable) (b := mx) (as := [.int v1]) (st := []) (rv := (some (.int r1))) (M2 := ((ab_up I mx 1 0), L, ab_RR, n, nc, ns)) d_M_turns_7 ce_M_isCable v_1748 v_1750 v_105 (by decide) rfl (Nat.le_of_ble_eq_true rfl) hC (Nat.le_refl _) (Nat.le_refl _) hc hs (fun j h9 => by cases h9) (fun _ _ => rfl) ?_
  show ab_E w (d + 1) mt_M_turns 10 [.ref mx, .int v1, .int v2] [.int r1] ((ab_up I mx 1 0), L, ab_RR, n, nc, ns) res
  refine ab_if_eq (tgt := 22) d_M_turns_10 (by decide) (fun c2 => ?_) (fun c2 => ?_)
  · have h := h.1 c2
    exact h
  · have h := h.2 c2
    refine ab_aload_n (i := 0) d_M_turns_13 rfl rfl ?_
    refine ab_iload_n (i := 1) d_M_turns_14 rfl rfl ?_
    obtain ⟨r3, hC, h⟩ := h
    refine ab_callV (me2 := mt_M_isSound) (b := mx) (as := [.int v1]) (st := []) (rv := (some (.int r3))) (M2 := ((ab_up I mx 1 0), L, ab_RR, n, nc, ns)) d_M_turns_15 ce_M_isSound v_1679 v_1681 v_89 (by decide) rfl (Nat.le_of_ble_eq_true rfl) hC (Nat.le_refl _) (Nat.le_refl _) hc hs (fun j h9 => by cases h9) (fun _ _ => rfl) ?_
    show ab_E w (d + 1) mt_M_turns 18 [.ref mx, .int v1, .int v2] [.int r3] ((ab_up I mx 1 0), L, ab_RR, n, nc, ns) res
    refine ab_iload_n (i := 2) d_M_turns_18 rfl rfl ?_
    refine ab_icmp_eq (tgt := 28) d_M_turns_19 (by decide) (fun c4 => ?_) (fun c4 => ?_)
    · have h := h.1 c4
      refine ab_aload_n (i := 0) d_M_turns_28 rfl rfl ?_
      obtain ⟨I6, hC, h⟩ := h
      refine ab_callV (me2 := mt_M_keep) (b := mx) (as := []) (st := []) (rv := none) (M2 := (I6, L, ab_RR, n, nc, ns)) d_M_turns_29 ce_M_keep v_1904 v_1906 v_129 (by decide) rfl (Nat.le_of_ble_eq_true rfl) hC (Nat.le_refl _) (Nat.le_refl _) hc hs (fun j h9 => by cases h9) (fun _ _ => rfl) ?_
      show ab_E w (d + 1) mt_M_turns 32 [.ref mx, .int v1, .int v2] [] (I6, L, ab_RR, n, nc, ns) res
      refine ab_aload_n (i := 0) d_M_turns_32 rfl rfl ?_
      refine ab_iload_n (i := 1) d_M_turns_33 rfl rfl ?_
      obtain ⟨I8, hC, h⟩ := h
      refine ab_callV (me2 := mt_M_turnsNow) (b := mx) (as := [.int v1]) (st := []) (rv := none) (M2 := (I8, L, ab_RR, n, nc, ns)) d_M_turns_34 ce_M_turnsNow v_1936 v_1938 v_134 (by decide) rfl (Nat.le_of_ble_eq_true rfl) hC (Nat.le_refl _) (Nat.le_refl _) hc hs (fun j h9 => by cases h9) (fun _ _ => rfl) ?_
      show ab_E w (d + 1) mt_M_turns 37 [.ref mx, .int v1, .int v2] [] (I8, L, ab_RR, n, nc, ns) res
      refine ab_aload_n (i := 0) d_M_turns_37 rfl rfl ?_
      obtain ⟨r9, I10, hC, h⟩ := h
      refine ab_callV (me2 := mt_M_piecesNow) (b := mx) (as := []) (st := []) (rv := (some (.int r9))) (M2 := (I10, L, ab_RR, n, nc, ns)) d_M_turns_38 ce_M_piecesNow v_1667 v_1669 v_86 (by decide) rfl (Nat.le_of_ble_eq_true rfl) hC (Nat.le_refl _) (Nat.le_refl _) hc hs (fun j h9 => by cases h9) (fun _ _ => rfl) ?_
      show ab_E w (d + 1) mt_M_turns 41 [.ref mx, .int v1, .int v2] [.int r9] (I10, L, ab_RR, n, nc, ns) res
      exact ab_iret (ty := .int) d_M_turns_41 rfl rfl h
    · have h := h.2 c4
      exact h
theorem q_M_turns_22 {w : ab_Wd} {d n nc ns : Nat} {I : Nat → Nat → Int32} {L : Nat → Nat → Int64} {res : ab_Re} (v1 : Int32) (v2 : Int32) (hc : nc ≤ res.2.2.2.2.2.1) (hs : ns ≤ res.2.2.2.2.2.2)
    (h : ∃ (r1 : Int32) (I2 : Nat → Nat → Int32), ab_C w d mt_M_refuse [.ref mx, .int 1] (I, L, ab_RR, n, nc, ns) (.inl (some (.int r1)), (I2, L, ab_RR, n, nc, ns)) ∧ res = (.inl (some (.int r1)), (I2, L, ab_RR, n, nc, ns))) : ab_E w (d + 1) mt_M_turns 22 [.ref mx, .int v1, .int v2] [] (I, L, ab_RR, n, nc, ns) res := by
  refine ab_aload_n (i := 0) d_M_turns_22 rfl rfl ?_
  refine ab_iconst (v := 1) d_M_turns_23 rfl ?_
  obtain ⟨r1, I2, hC, h⟩ := h
  refine ab_callV (me2 := mt_M_refuse) (b := mx) (as := [.int 1]) (st := []) (rv := (some (.int r1))) (M2 := (I2, L, ab_RR, n, nc, ns)) d_M_turns_24 ce_M_refuse v_1900 v_1902 v_128 (by decide) rfl (Nat.le_of_ble_eq_true rfl) hC (Nat.le_refl _) (Nat.le_refl _) hc hs (fun j h9 => by cases h9) (fun _ _ => rfl) ?_
  show ab_E w (d + 1) mt_M_turns 27 [.ref mx, .int v1, .int v2] [.int r1] (I2, L, ab_RR, n, nc, ns) res
  exact ab_iret (ty := .int) d_M_turns_27 rfl rfl h
theorem d_M_breaks_0 : decode (ab_bc mt_M_breaks) 0 = .ok (.aload_n 0, 1) := by decide +kernel
theorem d_M_breaks_1 : decode (ab_bc mt_M_breaks) 1 = .ok (.iload_n 1, 1) := by decide +kernel
theorem d_M_breaks_2 : decode (ab_bc mt_M_breaks) 2 = .ok (.iconst 1, 1) := by decide +kernel
theorem d_M_breaks_3 : decode (ab_bc mt_M_breaks) 3 = .ok (.invokevirtual 449, 3) := by decide +kernel
theorem d_M_breaks_6 : decode (ab_bc mt_M_breaks) 6 = .ok (.ireturn, 1) := by decide +kernel
-- CableKeeperModel.breaks(I)I over mx
theorem q_M_breaks_0 {w : ab_Wd} {d n nc ns : Nat} {I : Nat → Nat → Int32} {L : Nat → Nat → Int64} {res : ab_Re} (v1 : Int32) (hc : nc ≤ res.2.2.2.2.2.1) (hs : ns ≤ res.2.2.2.2.2.2)
    (h : ∃ (r1 : Int32) (I2 : Nat → Nat → Int32), ab_C w d mt_M_turns [.ref mx, .int v1, .int 1] (I, L, ab_RR, n, nc, ns) (.inl (some (.int r1)), (I2, L, ab_RR, n, nc, ns)) ∧ res = (.inl (some (.int r1)), (I2, L, ab_RR, n, nc, ns))) : ab_E w (d + 1) mt_M_breaks 0 [.ref mx, .int v1] [] (I, L, ab_RR, n, nc, ns) res := by
  refine ab_aload_n (i := 0) d_M_breaks_0 rfl rfl ?_
  refine ab_iload_n (i := 1) d_M_breaks_1 rfl rfl ?_
  refine ab_iconst (v := 1) d_M_breaks_2 rfl ?_
  obtain ⟨r1, I2, hC, h⟩ := h
  refine ab_callV (me2 := mt_M_turns) (b := mx) (as := [.int v1, .int 1]) (st := []) (rv := (some (.int r1))) (M2 := (I2, L, ab_RR, n, nc, ns)) d_M_breaks_3 ce_M_turns v_1932 v_1934 v_133 (by decide) rfl (Nat.le_of_ble_eq_true rfl) hC (Nat.le_refl _) (Nat.le_refl _) hc hs (fun j h9 => by cases h9) (fun _ _ => rfl) ?_
  show ab_E w (d + 1) mt_M_breaks 6 [.ref mx, .int v1] [.int r1] (I2, L, ab_RR, n, nc, ns) res
  exact ab_iret (ty := .int) d_M_breaks_6 rfl rfl h
theorem d_M_mend_0 : decode (ab_bc mt_M_mend) 0 = .ok (.aload_n 0, 1) := by decide +kernel
theorem d_M_mend_1 : decode (ab_bc mt_M_mend) 1 = .ok (.iload_n 1, 1) := by decide +kernel
theorem d_M_mend_2 : decode (ab_bc mt_M_mend) 2 = .ok (.iconst 0, 1) := by decide +kernel
theorem d_M_mend_3 : decode (ab_bc mt_M_mend) 3 = .ok (.invokevirtual 449, 3) := by decide +kernel
theorem d_M_mend_6 : decode (ab_bc mt_M_mend) 6 = .ok (.ireturn, 1) := by decide +kernel
-- CableKeeperModel.mend(I)I over mx
theorem q_M_mend_0 {w : ab_Wd} {d n nc ns : Nat} {I : Nat → Nat → Int32} {L : Nat → Nat → Int64} {res : ab_Re} (v1 : Int32) (hc : nc ≤ res.2.2.2.2.2.1) (hs : ns ≤ res.2.2.2.2.2.2)
    (h : ∃ (r1 : Int32) (I2 : Nat → Nat → Int32), ab_C w d mt_M_turns [.ref mx, .int v1, .int 0] (I, L, ab_RR, n, nc, ns) (.inl (some (.int r1)), (I2, L, ab_RR, n, nc, ns)) ∧ res = (.inl (some (.int r1)), (I2, L, ab_RR, n, nc, ns))) : ab_E w (d + 1) mt_M_mend 0 [.ref mx, .int v1] [] (I, L, ab_RR, n, nc, ns) res := by
  refine ab_aload_n (i := 0) d_M_mend_0 rfl rfl ?_
  refine ab_iload_n (i := 1) d_M_mend_1 rfl rfl ?_
  refine ab_iconst (v := 0) d_M_mend_2 rfl ?_
  obtain ⟨r1, I2, hC, h⟩ := h
  refine ab_callV (me2 := mt_M_turns) (b := mx) (as := [.int v1, .int 0]) (st := []) (rv := (some (.int r1))) (M2 := (I2, L, ab_RR, n, nc, ns)) d_M_mend_3 ce_M_turns v_1932 v_1934 v_133 (by decide) rfl (Nat.le_of_ble_eq_true rfl) hC (Nat.le_refl _) (Nat.le_refl _) hc hs (fun j h9 => by cases h9) (fun _ _ => rfl) ?_
  show ab_E w (d + 1) mt_M_mend 6 [.ref mx, .int v1] [.int r1] (I2, L, ab_RR, n, nc, ns) res
  exact ab_iret (ty := .int) d_M_mend_6 rfl rfl h
theorem d_M_lay_0 : decode (ab_bc mt_M_lay) 0 = .ok (.aload_n 0, 1) := by decide +kernel
theorem d_M_lay_1 : decode (ab_bc mt_M_lay) 1 = .ok (.iconst 0, 1) := by decide +kernel
theorem d_M_lay_2 : decode (ab_bc mt_M_lay) 2 = .ok (.putfield 108, 3) := by decide +kernel
theorem d_M_lay_5 : decode (ab_bc mt_M_lay) 5 = .ok (.aload_n 0, 1) := by decide +kernel
theorem d_M_lay_6 : decode (ab_bc mt_M_lay) 6 = .ok (.iload_n 1, 1) := by decide +kernel
theorem d_M_lay_7 : decode (ab_bc mt_M_lay) 7 = .ok (.invokevirtual 357, 3) := by decide +kernel
theorem d_M_lay_10 : decode (ab_bc mt_M_lay) 10 = .ok (.ifCond .eq 46, 3) := by decide +kernel
theorem d_M_lay_13 : decode (ab_bc mt_M_lay) 13 = .ok (.aload_n 0, 1) := by decide +kernel
theorem d_M_lay_14 : decode (ab_bc mt_M_lay) 14 = .ok (.iload_n 2, 1) := by decide +kernel
theorem d_M_lay_15 : decode (ab_bc mt_M_lay) 15 = .ok (.invokevirtual 357, 3) := by decide +kernel
theorem d_M_lay_18 : decode (ab_bc mt_M_lay) 18 = .ok (.ifCond .eq 38, 3) := by decide +kernel
theorem d_M_lay_21 : decode (ab_bc mt_M_lay) 21 = .ok (.iload_n 1, 1) := by decide +kernel
theorem d_M_lay_22 : decode (ab_bc mt_M_lay) 22 = .ok (.iload_n 2, 1) := by decide +kernel
theorem d_M_lay_23 : decode (ab_bc mt_M_lay) 23 = .ok (.if_icmp .eq 33, 3) := by decide +kernel
theorem d_M_lay_26 : decode (ab_bc mt_M_lay) 26 = .ok (.iload_n 3, 1) := by decide +kernel
theorem d_M_lay_27 : decode (ab_bc mt_M_lay) 27 = .ok (.iconst 1, 1) := by decide +kernel
theorem d_M_lay_28 : decode (ab_bc mt_M_lay) 28 = .ok (.sipush 999, 3) := by decide +kernel
theorem d_M_lay_31 : decode (ab_bc mt_M_lay) 31 = .ok (.invokestatic 344, 3) := by decide +kernel
theorem d_M_lay_34 : decode (ab_bc mt_M_lay) 34 = .ok (.ifCond .eq 22, 3) := by decide +kernel
theorem d_M_lay_37 : decode (ab_bc mt_M_lay) 37 = .ok (.iload 4, 2) := by decide +kernel
theorem d_M_lay_39 : decode (ab_bc mt_M_lay) 39 = .ok (.iconst 0, 1) := by decide +kernel
theorem d_M_lay_40 : decode (ab_bc mt_M_lay) 40 = .ok (.iconst 3, 1) := by decide +kernel
theorem d_M_lay_41 : decode (ab_bc mt_M_lay) 41 = .ok (.invokestatic 344, 3) := by decide +kernel
theorem d_M_lay_44 : decode (ab_bc mt_M_lay) 44 = .ok (.ifCond .eq 12, 3) := by decide +kernel
theorem d_M_lay_47 : decode (ab_bc mt_M_lay) 47 = .ok (.aload_n 0, 1) := by decide +kernel
theorem d_M_lay_48 : decode (ab_bc mt_M_lay) 48 = .ok (.invokevirtual 234, 3) := by decide +kernel
theorem d_M_lay_51 : decode (ab_bc mt_M_lay) 51 = .ok (.bipush 24, 2) := by decide +kernel
theorem d_M_lay_53 : decode (ab_bc mt_M_lay) 53 = .ok (.if_icmp .ne 9, 3) := by decide +kernel
theorem d_M_lay_56 : decode (ab_bc mt_M_lay) 56 = .ok (.aload_n 0, 1) := by decide +kernel
theorem d_M_lay_57 : decode (ab_bc mt_M_lay) 57 = .ok (.iconst 1, 1) := by decide +kernel
theorem d_M_lay_58 : decode (ab_bc mt_M_lay) 58 = .ok (.invokevirtual 434, 3) := by decide +kernel
theorem d_M_lay_61 : decode (ab_bc mt_M_lay) 61 = .ok (.ireturn, 1) := by decide +kernel
theorem d_M_lay_62 : decode (ab_bc mt_M_lay) 62 = .ok (.aload_n 0, 1) := by decide +kernel
theorem d_M_lay_63 : decode (ab_bc mt_M_lay) 63 = .ok (.invokevirtual 437, 3) := by decide +kernel
theorem d_M_lay_66 : decode (ab_bc mt_M_lay) 66 = .ok (.aload_n 0, 1) := by decide +kernel
theorem d_M_lay_67 : decode (ab_bc mt_M_lay) 67 = .ok (.invokevirtual 251, 3) := by decide +kernel
theorem d_M_lay_70 : decode (ab_bc mt_M_lay) 70 = .ok (.istore 5, 2) := by decide +kernel
theorem d_M_lay_72 : decode (ab_bc mt_M_lay) 72 = .ok (.aload_n 0, 1) := by decide +kernel
theorem d_M_lay_73 : decode (ab_bc mt_M_lay) 73 = .ok (.invokevirtual 234, 3) := by decide +kernel
theorem d_M_lay_76 : decode (ab_bc mt_M_lay) 76 = .ok (.istore 6, 2) := by decide +kernel
theorem d_M_lay_78 : decode (ab_bc mt_M_lay) 78 = .ok (.aload_n 0, 1) := by decide +kernel
theorem d_M_lay_79 : decode (ab_bc mt_M_lay) 79 = .ok (.getfield 24, 3) := by decide +kernel
theorem d_M_lay_82 : decode (ab_bc mt_M_lay) 82 = .ok (.iconst 3, 1) := by decide +kernel
theorem d_M_lay_83 : decode (ab_bc mt_M_lay) 83 = .ok (.iload 6, 2) := by decide +kernel
theorem d_M_lay_85 : decode (ab_bc mt_M_lay) 85 = .ok (.iadd, 1) := by decide +kernel
theorem d_M_lay_86 : decode (ab_bc mt_M_lay) 86 = .ok (.iload_n 1, 1) := by decide +kernel
theorem d_M_lay_87 : decode (ab_bc mt_M_lay) 87 = .ok (.iastore, 1) := by decide +kernel
theorem d_M_lay_88 : decode (ab_bc mt_M_lay) 88 = .ok (.aload_n 0, 1) := by decide +kernel
theorem d_M_lay_89 : decode (ab_bc mt_M_lay) 89 = .ok (.getfield 24, 3) := by decide +kernel
theorem d_M_lay_92 : decode (ab_bc mt_M_lay) 92 = .ok (.bipush 27, 2) := by decide +kernel
theorem d_M_lay_94 : decode (ab_bc mt_M_lay) 94 = .ok (.iload 6, 2) := by decide +kernel
theorem d_M_lay_96 : decode (ab_bc mt_M_lay) 96 = .ok (.iadd, 1) := by decide +kernel
theorem d_M_lay_97 : decode (ab_bc mt_M_lay) 97 = .ok (.iload_n 2, 1) := by decide +kernel
theorem d_M_lay_98 : decode (ab_bc mt_M_lay) 98 = .ok (.iastore, 1) := by decide +kernel
theorem d_M_lay_99 : decode (ab_bc mt_M_lay) 99 = .ok (.aload_n 0, 1) := by decide +kernel
theorem d_M_lay_100 : decode (ab_bc mt_M_lay) 100 = .ok (.getfield 24, 3) := by decide +kernel
theorem d_M_lay_103 : decode (ab_bc mt_M_lay) 103 = .ok (.bipush 51, 2) := by decide +kernel
theorem d_M_lay_105 : decode (ab_bc mt_M_lay) 105 = .ok (.iload 6, 2) := by decide +kernel
theorem d_M_lay_107 : decode (ab_bc mt_M_lay) 107 = .ok (.iadd, 1) := by decide +kernel
theorem d_M_lay_108 : decode (ab_bc mt_M_lay) 108 = .ok (.iload_n 3, 1) := by decide +kernel
theorem d_M_lay_109 : decode (ab_bc mt_M_lay) 109 = .ok (.iastore, 1) := by decide +kernel
theorem d_M_lay_110 : decode (ab_bc mt_M_lay) 110 = .ok (.aload_n 0, 1) := by decide +kernel
theorem d_M_lay_111 : decode (ab_bc mt_M_lay) 111 = .ok (.getfield 24, 3) := by decide +kernel
theorem d_M_lay_114 : decode (ab_bc mt_M_lay) 114 = .ok (.bipush 75, 2) := by decide +kernel
theorem d_M_lay_116 : decode (ab_bc mt_M_lay) 116 = .ok (.iload 6, 2) := by decide +kernel
theorem d_M_lay_118 : decode (ab_bc mt_M_lay) 118 = .ok (.iadd, 1) := by decide +kernel
theorem d_M_lay_119 : decode (ab_bc mt_M_lay) 119 = .ok (.iload 4, 2) := by decide +kernel
theorem d_M_lay_121 : decode (ab_bc mt_M_lay) 121 = .ok (.iastore, 1) := by decide +kernel
theorem d_M_lay_122 : decode (ab_bc mt_M_lay) 122 = .ok (.aload_n 0, 1) := by decide +kernel
theorem d_M_lay_123 : decode (ab_bc mt_M_lay) 123 = .ok (.getfield 24, 3) := by decide +kernel
theorem d_M_lay_126 : decode (ab_bc mt_M_lay) 126 = .ok (.iconst 1, 1) := by decide +kernel
theorem d_M_lay_127 : decode (ab_bc mt_M_lay) 127 = .ok (.dup2, 1) := by decide +kernel
theorem d_M_lay_128 : decode (ab_bc mt_M_lay) 128 = .ok (.iaload, 1) := by decide +kernel
theorem d_M_lay_129 : decode (ab_bc mt_M_lay) 129 = .ok (.iconst 1, 1) := by decide +kernel
theorem d_M_lay_130 : decode (ab_bc mt_M_lay) 130 = .ok (.iload 6, 2) := by decide +kernel
theorem d_M_lay_132 : decode (ab_bc mt_M_lay) 132 = .ok (.ishl, 1) := by decide +kernel
theorem d_M_lay_133 : decode (ab_bc mt_M_lay) 133 = .ok (.ior, 1) := by decide +kernel
theorem d_M_lay_134 : decode (ab_bc mt_M_lay) 134 = .ok (.iastore, 1) := by decide +kernel
theorem d_M_lay_135 : decode (ab_bc mt_M_lay) 135 = .ok (.aload_n 0, 1) := by decide +kernel
theorem d_M_lay_136 : decode (ab_bc mt_M_lay) 136 = .ok (.getfield 24, 3) := by decide +kernel
theorem d_M_lay_139 : decode (ab_bc mt_M_lay) 139 = .ok (.iconst 0, 1) := by decide +kernel
theorem d_M_lay_140 : decode (ab_bc mt_M_lay) 140 = .ok (.dup2, 1) := by decide +kernel
theorem d_M_lay_141 : decode (ab_bc mt_M_lay) 141 = .ok (.iaload, 1) := by decide +kernel
theorem d_M_lay_142 : decode (ab_bc mt_M_lay) 142 = .ok (.iconst 1, 1) := by decide +kernel
theorem d_M_lay_143 : decode (ab_bc mt_M_lay) 143 = .ok (.iadd, 1) := by decide +kernel
theorem d_M_lay_144 : decode (ab_bc mt_M_lay) 144 = .ok (.iastore, 1) := by decide +kernel
theorem d_M_lay_145 : decode (ab_bc mt_M_lay) 145 = .ok (.aload_n 0, 1) := by decide +kernel
theorem d_M_lay_146 : decode (ab_bc mt_M_lay) 146 = .ok (.iconst 5, 1) := by decide +kernel
theorem d_M_lay_147 : decode (ab_bc mt_M_lay) 147 = .ok (.iload 6, 2) := by decide +kernel
theorem d_M_lay_149 : decode (ab_bc mt_M_lay) 149 = .ok (.iload 5, 2) := by decide +kernel
theorem d_M_lay_151 : decode (ab_bc mt_M_lay) 151 = .ok (.invokevirtual 265, 3) := by decide +kernel
theorem d_M_lay_154 : decode (ab_bc mt_M_lay) 154 = .ok (.iload 6, 2) := by decide +kernel
theorem d_M_lay_156 : decode (ab_bc mt_M_lay) 156 = .ok (.ireturn, 1) := by decide +kernel
-- CableKeeperModel.lay(IIII)I over mx
theorem q_M_lay_0 {w : ab_Wd} {d n nc ns : Nat} {I : Nat → Nat → Int32} {L : Nat → Nat → Int64} {res : ab_Re} (v1 : Int32) (v2 : Int32) (v3 : Int32) (v4 : Int32) (hc : nc ≤ res.2.2.2.2.2.1) (hs : ns ≤ res.2.2.2.2.2.2)
    (h : ∃ (r1 : Int32), ab_C w d mt_M_isSite [.ref mx, .int v1] ((ab_up I mx 1 0), L, ab_RR, n, nc, ns) (.inl (some (.int r1)), ((ab_up I mx 1 0), L, ab_RR, n, nc, ns)) ∧ ((r1 = 0 → (ab_E w (d + 1) mt_M_lay 56 [.ref mx, .int v1, .int v2, .int v3, .int v4, .null, .null] [] ((ab_up I mx 1 0), L, ab_RR, n, nc, ns) res)) ∧ (¬ r1 = 0 → (∃ (r3 : Int32), ab_C w d mt_M_isSite [.ref mx, .int v2] ((ab_up I mx 1 0), L, ab_RR, n, nc, ns) (.inl (some (.int r3)), ((ab_up I mx 1 0), L, ab_RR, n, nc, ns)) ∧ ((r3 = 0 → (ab_E w (d + 1) mt_M_lay 56 [.ref mx, .int v1, .int v2, .int v3, .int v4, .null, .null] [] ((ab_up I mx 1 0), L, ab_RR, n, nc, ns) res)) ∧ (¬ r3 = 0 → ((v1 = v2 → (ab_E w (d + 1) mt_M_lay 56 [.ref mx, .int v1, .int v2, .int v3, .int v4, .null, .null] [] ((ab_up I mx 1 0), L, ab_RR, n, nc, ns) res)) ∧ (¬ v1 = v2 → (∃ (r6 : Int32), ab_C w d mt_M_isIn [.int v3, .int 1, .int 999] ((ab_up I mx 1 0), L, ab_RR, n, nc, ns) (.inl (some (.int r6)), ((ab_up I mx 1 0), L, ab_RR, n, nc, ns)) ∧ ((r6 = 0 → (ab_E w (d + 1) mt_M_lay 56 [.ref mx, .int v1, .int v2, .int v3, .int v4, .null, .null] [] ((ab_up I mx 1 0), L, ab_RR, n, nc, ns) res)) ∧ (¬ r6 = 0 → (∃ (r8 : Int32), ab_C w d mt_M_isIn [.int v4, .int 0, .int 3] ((ab_up I mx 1 0), L, ab_RR, n, nc, ns) (.inl (some (.int r8)), ((ab_up I mx 1 0), L, ab_RR, n, nc, ns)) ∧ ((r8 = 0 → (ab_E w (d + 1) mt_M_lay 56 [.ref mx, .int v1, .int v2, .int v3, .int v4, .null, .null] [] ((ab_up I mx 1 0), L, ab_RR, n, nc, ns) res)) ∧ (¬ r8 = 0 → (∃ (r10 : Int32), ab_C w d mt_M_many [.ref mx] ((ab_up I mx 1 0), L, ab_RR, n, nc, ns) (.inl (some (.int r10)), ((ab_up I mx 1 0), L, ab_RR, n, nc, ns)) ∧ ((¬ r10 = 24 → (∃ (I13 : Nat → Nat → Int32), ab_C w d mt_M_keep [.ref mx] ((ab_up I mx 1 0), L, ab_RR, n, nc, ns) (.inl none, (I13, L, ab_RR, n, nc, ns)) ∧ ∃ (r14 : Int32) (I15 : Nat → Nat → Int32), ab_C w d mt_M_netNow [.ref mx] (I13, L, ab_RR, n, nc, ns) (.inl (some (.int r14)), (I15, L, ab_RR, n, nc, ns)) ∧ ∃ (r16 : Int32), ab_C w d mt_M_many [.ref mx] (I15, L, ab_RR, n, nc, ns) (.inl (some (.int r16)), (I15, L, ab_RR, n, nc, ns)) ∧ (vp_in (3 + r16) 399) ∧ (vp_in (27 + r16) 399) ∧ (vp_in (51 + r16) 399) ∧ (vp_in (75 + r16) 399) ∧ ∃ (I22 : Nat → Nat → Int32), ab_C w d mt_M_swaps [.ref mx, .int 5, .int r16, .int r14] ((ab_up (ab_up (ab_up (ab_up (ab_up (ab_up I15 mx_now (3 + r16).toNatClampNeg v1) mx_now (27 + r16).toNatClampNeg v2) mx_now (51 + r16).toNatClampNeg v3) mx_now (75 + r16).toNatClampNeg v4) mx_now 1 (((ab_up (ab_up (ab_up (ab_up I15 mx_now (3 + r16).toNatClampNeg v1) mx_now (27 + r16).toNatClampNeg v2) mx_now (51 + r16).toNatClampNeg v3) mx_now (75 + r16).toNatClampNeg v4) mx_now 1) ||| ((1 : Int32) <<< (r16 &&& 31)))) mx_now 0 (((ab_up (ab_up (ab_up (ab_up (ab_up I15 mx_now (3 + r16).toNatClampNeg v1) mx_now (27 + r16).toNatClampNeg v2) mx_now (51 + r16).toNatClampNeg v3) mx_now (75 + r16).toNatClampNeg v4) mx_now 1 (((ab_up (ab_up (ab_up (ab_up I15 mx_now (3 + r16).toNatClampNeg v1) mx_now (27 + r16).toNatClampNeg v2) mx_now (51 + r16).toNatClampNeg v3) mx_now (75 + r16).toNatClampNeg v4) mx_now 1) ||| ((1 : Int32) <<< (r16 &&& 31)))) mx_now 0) + 1)), L, ab_RR, n, nc, ns) (.inl none, (I22, L, ab_RR, n, nc, ns)) ∧ res = (.inl (some (.int r16)), (I22, L, ab_RR, n, nc, ns)))) ∧ (r10 = 24 → (ab_E w (d + 1) mt_M_lay 56 [.ref mx, .int v1, .int v2, .int v3, .int v4, .null, .null] [] ((ab_up I mx 1 0), L, ab_RR, n, nc, ns) res)))))))))))))))))) : ab_E w (d + 1) mt_M_lay 0 [.ref mx, .int v1, .int v2, .int v3, .int v4, .null, .null] [] (I, L, ab_RR, n, nc, ns) res := by
  refine ab_aload_n (i := 0) d_M_lay_0 rfl rfl ?_
  refine ab_iconst (v := 0) d_M_lay_1 rfl ?_
  refine ab_putI (ci := 11) (k := 1) d_M_lay_2 v_1369 rfl (by decide) (by decide) rfl (Or.inl rfl) rfl rfl ?_
  refine ab_aload_n (i := 0) d_M_lay_5 rfl rfl ?_
  refine ab_iload_n (i := 1) d_M_lay_6 rfl rfl ?_
  obtain ⟨r1, hC, h⟩ := h
  refine ab_callV (me2 := mt_M_isSite) (b := mx) (as := [.int v1]) (st := []) (rv := (some (.int r1))) (M2 := ((ab_up I mx 1 0), L, ab_RR, n, nc, ns)) d_M_lay_7 ce_M_isSite v_1783 v_1785 v_110 (by decide) rfl (Nat.le_of_ble_eq_true rfl) hC (Nat.le_refl _) (Nat.le_refl _) hc hs (fun j h9 => by cases h9) (fun _ _ => rfl) ?_
  show ab_E w (d + 1) mt_M_lay 10 [.ref mx, .int v1, .int v2, .int v3, .int v4, .null, .null] [.int r1] ((ab_up I mx 1 0), L, ab_RR, n, nc, ns) res
  refine ab_if_eq (tgt := 56) d_M_lay_10 (by decide) (fun c2 => ?_) (fun c2 => ?_)
  · have h := h.1 c2
    exact h
  · have h := h.2 c2
    refine ab_aload_n (i := 0) d_M_lay_13 rfl rfl ?_
    refine ab_iload_n (i := 2) d_M_lay_14 rfl rfl ?_
    obtain ⟨r3, hC, h⟩ := h
    refine ab_callV (me2 := mt_M_isSite) (b := mx) (as := [.int v2]) (st := []) (rv := (some (.int r3))) (M2 := ((ab_up I mx 1 0), L, ab_RR, n, nc, ns)) d_M_lay_15 ce_M_isSite v_1783 v_1785 v_110 (by decide) rfl (Nat.le_of_ble_eq_true rfl) hC (Nat.le_refl _) (Nat.le_refl _) hc hs (fun j h9 => by cases h9) (fun _ _ => rfl) ?_
    show ab_E w (d + 1) mt_M_lay 18 [.ref mx, .int v1, .int v2, .int v3, .int v4, .null, .null] [.int r3] ((ab_up I mx 1 0), L, ab_RR, n, nc, ns) res
    refine ab_if_eq (tgt := 56) d_M_lay_18 (by decide) (fun c4 => ?_) (fun c4 => ?_)
    · have h := h.1 c4
      exact h
    · have h := h.2 c4
      refine ab_iload_n (i := 1) d_M_lay_21 rfl rfl ?_
      refine ab_iload_n (i := 2) d_M_lay_22 rfl rfl ?_
      refine ab_icmp_eq (tgt := 56) d_M_lay_23 (by decide) (fun c5 => ?_) (fun c5 => ?_)
      · have h := h.1 c5
        exact h
      · have h := h.2 c5
        refine ab_iload_n (i := 3) d_M_lay_26 rfl rfl ?_
        refine ab_iconst (v := 1) d_M_lay_27 rfl ?_
        refine ab_sipush (v := 999) d_M_lay_28 rfl ?_
        obtain ⟨r6, hC, h⟩ := h
        refine ab_callS (me2 := mt_M_isIn) (as := [.int v3, .int 1, .int 999]) (st := []) (rv := (some (.int r6))) (M2 := ((ab_up I mx 1 0), L, ab_RR, n, nc, ns)) d_M_lay_31 ce_M_isIn ⟨v_1753, Or.inl v_1752⟩ (Nat.le_of_ble_eq_true rfl) hC (Nat.le_refl _) (Nat.le_refl _) hc hs (fun j h9 => by cases h9) (fun _ _ => rfl) ?_
        show ab_E w (d + 1) mt_M_lay 34 [.ref mx, .int v1, .int v2, .int v3, .int v4, .null, .null] [.int r6] ((ab_up I mx 1 0), L, ab_RR, n, nc, ns) res
        refine ab_if_eq (tgt := 56) d_M_lay_34 (by decide) (fun c7 => ?_) (fun c7 => ?_)
        · have h := h.1 c7
          exact h
        · have h := h.2 c7
          refine ab_iload (i := 4) d_M_lay_37 rfl ?_
          refine ab_iconst (v := 0) d_M_lay_39 rfl ?_
          refine ab_iconst (v := 3) d_M_lay_40 rfl ?_
          obtain ⟨r8, hC, h⟩ := h
          refine ab_callS (me2 := mt_M_isIn) (as := [.int v4, .int 0, .int 3]) (st := []) (rv := (some (.int r8))) (M2 := ((ab_up I mx 1 0), L, ab_RR, n, nc, ns)) d_M_lay_41 ce_M_isIn ⟨v_1753, Or.inl v_1752⟩ (Nat.le_of_ble_eq_true rfl) hC (Nat.le_refl _) (Nat.le_refl _) hc hs (fun j h9 => by cases h9) (fun _ _ => rfl) ?_
          show ab_E w (d + 1) mt_M_lay 44 [.ref mx, .int v1, .int v2, .int v3, .int v4, .null, .null] [.int r8] ((ab_up I mx 1 0), L, ab_RR, n, nc, ns) res
          refine ab_if_eq (tgt := 56) d_M_lay_44 (by decide) (fun c9 => ?_) (fun c9 => ?_)
          · have h := h.1 c9
            exact h
          · have h := h.2 c9
            refine ab_aload_n (i := 0) d_M_lay_47 rfl rfl ?_
            obtain ⟨r10, hC, h⟩ := h
            refine ab_callV (me2 := mt_M_many) (b := mx) (as := []) (st := []) (rv := (some (.int r10))) (M2 := ((ab_up I mx 1 0), L, ab_RR, n, nc, ns)) d_M_lay_48 ce_M_many v_1635 v_1637 v_79 (by decide) rfl (Nat.le_of_ble_eq_true rfl) hC (Nat.le_refl _) (Nat.le_refl _) hc hs (fun j h9 => by cases h9) (fun _ _ => rfl) ?_
            show ab_E w (d + 1) mt_M_lay 51 [.ref mx, .int v1, .int v2, .int v3, .int v4, .null, .null] [.int r10] ((ab_up I mx 1 0), L, ab_RR, n, nc, ns) res
            refine ab_bipush (v := 24) d_M_lay_51 rfl ?_
            refine ab_icmp_ne (tgt := 62) d_M_lay_53 (by decide) (fun c11 => ?_) (fun c11 => ?_)
            · have h := h.1 c11
              refine ab_aload_n (i := 0) d_M_lay_62 rfl rfl ?_
              obtain ⟨I13, hC, h⟩ := h
              refine ab_callV (me2 := mt_M_keep) (b := mx) (as := []) (st := []) (rv := none) (M2 := (I13, L, ab_RR, n, nc, ns)) d_M_lay_63 ce_M_keep v_1904 v_1906 v_129 (by decide) rfl (Nat.le_of_ble_eq_true rfl) hC (Nat.le_refl _) (Nat.le_refl _) hc hs (fun j h9 => by cases h9) (fun _ _ => rfl) ?_
              show ab_E w (d + 1) mt_M_lay 66 [.ref mx, .int v1, .int v2, .int v3, .int v4, .null, .null] [] (I13, L, ab_RR, n, nc, ns) res
              refine ab_aload_n (i := 0) d_M_lay_66 rfl rfl ?_
              obtain ⟨r14, I15, hC, h⟩ := h
              refine ab_callV (me2 := mt_M_netNow) (b := mx) (as := []) (st := []) (rv := (some (.int r14))) (M2 := (I15, L, ab_RR, n, nc, ns)) d_M_lay_67 ce_M_netNow v_1639 v_1641 v_80 (by decide) rfl (Nat.le_of_ble_eq_true rfl) hC (Nat.le_refl _) (Nat.le_refl _) hc hs (fun j h9 => by cases h9) (fun _ _ => rfl) ?_
              show ab_E w (d + 1) mt_M_lay 70 [.ref mx, .int v1, .int v2, .int v3, .int v4, .null, .null] [.int r14] (I15, L, ab_RR, n, nc, ns) res
              refine ab_istore (i := 5) d_M_lay_70 (by decide) (Or.inr rfl) ?_
              refine ab_aload_n (i := 0) d_M_lay_72 rfl rfl ?_
              obtain ⟨r16, hC, h⟩ := h
              refine ab_callV (me2 := mt_M_many) (b := mx) (as := []) (st := []) (rv := (some (.int r16))) (M2 := (I15, L, ab_RR, n, nc, ns)) d_M_lay_73 ce_M_many v_1635 v_1637 v_79 (by decide) rfl (Nat.le_of_ble_eq_true rfl) hC (Nat.le_refl _) (Nat.le_refl _) hc hs (fun j h9 => by cases h9) (fun _ _ => rfl) ?_
              show ab_E w (d + 1) mt_M_lay 76 [.ref mx, .int v1, .int v2, .int v3, .int v4, .int r14, .null] [.int r16] (I15, L, ab_RR, n, nc, ns) res
              refine ab_istore (i := 6) d_M_lay_76 (by decide) (Or.inr rfl) ?_
              refine ab_aload_n (i := 0) d_M_lay_78 rfl rfl ?_
              refine ab_getR (ci := 11) (k := 4) (j := mx_now) d_M_lay_79 v_1372 rfl (by decide) (by decide) rfl r_mx_4 ?_
              refine ab_iconst (v := 3) d_M_lay_82 rfl ?_
              refine ab_iload (i := 6) d_M_lay_83 rfl ?_
              refine ab_iadd d_M_lay_85 ?_
              refine ab_iload_n (i := 1) d_M_lay_86 rfl rfl ?_
              have g17 := h.1; have h := h.2
              refine ab_iast d_M_lay_87 rfl rfl g17 ?_
              refine ab_aload_n (i := 0) d_M_lay_88 rfl rfl ?_
              refine ab_getR (ci := 11) (k := 4) (j := mx_now) d_M_lay_89 v_1372 rfl (by decide) (by decide) rfl r_mx_4 ?_
              refine ab_bipush (v := 27) d_M_lay_92 rfl ?_
              refine ab_iload (i := 6) d_M_lay_94 rfl ?_
              refine ab_iadd d_M_lay_96 ?_
              refine ab_iload_n (i := 2) d_M_lay_97 rfl rfl ?_
              have g18 := h.1; have h := h.2
              refine ab_iast d_M_lay_98 rfl rfl g18 ?_
              refine ab_aload_n (i := 0) d_M_lay_99 rfl rfl ?_
              refine ab_getR (ci := 11) (k := 4) (j := mx_now) d_M_lay_100 v_1372 rfl (by decide) (by decide) rfl r_mx_4 ?_
              refine ab_bipush (v := 51) d_M_lay_103 rfl ?_
              refine ab_iload (i := 6) d_M_lay_105 rfl ?_
              refine ab_iadd d_M_lay_107 ?_
              refine ab_iload_n (i := 3) d_M_lay_108 rfl rfl ?_
              have g19 := h.1; have h := h.2
              refine ab_iast d_M_lay_109 rfl rfl g19 ?_
              refine ab_aload_n (i := 0) d_M_lay_110 rfl rfl ?_
              refine ab_getR (ci := 11) (k := 4) (j := mx_now) d_M_lay_111 v_1372 rfl (by decide) (by decide) rfl r_mx_4 ?_
              refine ab_bipush (v := 75) d_M_lay_114 rfl ?_
              refine ab_iload (i := 6) d_M_lay_116 rfl ?_
              refine ab_iadd d_M_lay_118 ?_
              refine ab_iload (i := 4) d_M_lay_119 rfl ?_
              have g20 := h.1; have h := h.2
              refine ab_iast d_M_lay_121 rfl rfl g20 ?_
              refine ab_aload_n (i := 0) d_M_lay_122 rfl rfl ?_
              refine ab_getR (ci := 11) (k := 4) (j := mx_now) d_M_lay_123 v_1372 rfl (by decide) (by decide) rfl r_mx_4 ?_
              refine ab_iconst (v := 1) d_M_lay_126 rfl ?_
              refine ab_dup2 d_M_lay_127 ?_
              refine ab_iald d_M_lay_128 rfl rfl (by unfold vp_in; decide) ?_
              refine ab_iconst (v := 1) d_M_lay_129 rfl ?_
              refine ab_iload (i := 6) d_M_lay_130 rfl ?_
              refine ab_ishl d_M_lay_132 ?_
              refine ab_ior d_M_lay_133 ?_
              refine ab_iast d_M_lay_134 rfl rfl (by unfold vp_in; decide) ?_
              refine ab_aload_n (i := 0) d_M_lay_135 rfl rfl ?_
              refine ab_getR (ci := 11) (k := 4) (j := mx_now) d_M_lay_136 v_1372 rfl (by decide) (by decide) rfl r_mx_4 ?_
              refine ab_iconst (v := 0) d_M_lay_139 rfl ?_
              refine ab_dup2 d_M_lay_140 ?_
              refine ab_iald d_M_lay_141 rfl rfl (by unfold vp_in; decide) ?_
              refine ab_iconst (v := 1) d_M_lay_142 rfl ?_
              refine ab_iadd d_M_lay_143 ?_
              refine ab_iast d_M_lay_144 rfl rfl (by unfold vp_in; decide) ?_
              refine ab_aload_n (i := 0) d_M_lay_145 rfl rfl ?_
              refine ab_iconst (v := 5) d_M_lay_146 rfl ?_
              refine ab_iload (i := 6) d_M_lay_147 rfl ?_
              refine ab_iload (i := 5) d_M_lay_149 rfl ?_
              obtain ⟨I22, hC, h⟩ := h
              refine ab_callV (me2 := mt_M_swaps) (b := mx) (as := [.int 5, .int r16, .int r14]) (st := []) (rv := none) (M2 := (I22, L, ab_RR, n, nc, ns)) d_M_lay_151 ce_M_swaps v_1912 v_1914 v_131 (by decide) rfl (Nat.le_of_ble_eq_true rfl) hC (Nat.le_refl _) (Nat.le_refl _) hc hs (fun j h9 => by cases h9) (fun _ _ => rfl) ?_
              show ab_E w (d + 1) mt_M_lay 154 [.ref mx, .int v1, .int v2, .int v3, .int v4, .int r14, .int r16] [] (I22, L, ab_RR, n, nc, ns) res
              refine ab_iload (i := 6) d_M_lay_154 rfl ?_
              exact ab_iret (ty := .int) d_M_lay_156 rfl rfl h
            · have h := h.2 c11
              exact h
theorem q_M_lay_56 {w : ab_Wd} {d n nc ns : Nat} {I : Nat → Nat → Int32} {L : Nat → Nat → Int64} {res : ab_Re} (v1 : Int32) (v2 : Int32) (v3 : Int32) (v4 : Int32) (hc : nc ≤ res.2.2.2.2.2.1) (hs : ns ≤ res.2.2.2.2.2.2)
    (h : ∃ (r1 : Int32) (I2 : Nat → Nat → Int32), ab_C w d mt_M_refuse [.ref mx, .int 1] (I, L, ab_RR, n, nc, ns) (.inl (some (.int r1)), (I2, L, ab_RR, n, nc, ns)) ∧ res = (.inl (some (.int r1)), (I2, L, ab_RR, n, nc, ns))) : ab_E w (d + 1) mt_M_lay 56 [.ref mx, .int v1, .int v2, .int v3, .int v4, .null, .null] [] (I, L, ab_RR, n, nc, ns) res := by
  refine ab_aload_n (i := 0) d_M_lay_56 rfl rfl ?_
  refine ab_iconst (v := 1) d_M_lay_57 rfl ?_
  obtain ⟨r1, I2, hC, h⟩ := h
  refine ab_callV (me2 := mt_M_refuse) (b := mx) (as := [.int 1]) (st := []) (rv := (some (.int r1))) (M2 := (I2, L, ab_RR, n, nc, ns)) d_M_lay_58 ce_M_refuse v_1900 v_1902 v_128 (by decide) rfl (Nat.le_of_ble_eq_true rfl) hC (Nat.le_refl _) (Nat.le_refl _) hc hs (fun j h9 => by cases h9) (fun _ _ => rfl) ?_
  show ab_E w (d + 1) mt_M_lay 61 [.ref mx, .int v1, .int v2, .int v3, .int v4, .null, .null] [.int r1] (I2, L, ab_RR, n, nc, ns) res
  exact ab_iret (ty := .int) d_M_lay_61 rfl rfl h
theorem d_M_undo_0 : decode (ab_bc mt_M_undo) 0 = .ok (.aload_n 0, 1) := by decide +kernel
theorem d_M_undo_1 : decode (ab_bc mt_M_undo) 1 = .ok (.iconst 0, 1) := by decide +kernel
theorem d_M_undo_2 : decode (ab_bc mt_M_undo) 2 = .ok (.putfield 108, 3) := by decide +kernel
theorem d_M_undo_5 : decode (ab_bc mt_M_undo) 5 = .ok (.aload_n 0, 1) := by decide +kernel
theorem d_M_undo_6 : decode (ab_bc mt_M_undo) 6 = .ok (.getfield 212, 3) := by decide +kernel
theorem d_M_undo_9 : decode (ab_bc mt_M_undo) 9 = .ok (.ifCond .ne 5, 3) := by decide +kernel
theorem d_M_undo_12 : decode (ab_bc mt_M_undo) 12 = .ok (.iconst (-1), 1) := by decide +kernel
theorem d_M_undo_13 : decode (ab_bc mt_M_undo) 13 = .ok (.ireturn, 1) := by decide +kernel
theorem d_M_undo_14 : decode (ab_bc mt_M_undo) 14 = .ok (.aload_n 0, 1) := by decide +kernel
theorem d_M_undo_15 : decode (ab_bc mt_M_undo) 15 = .ok (.dup, 1) := by decide +kernel
theorem d_M_undo_16 : decode (ab_bc mt_M_undo) 16 = .ok (.getfield 212, 3) := by decide +kernel
theorem d_M_undo_19 : decode (ab_bc mt_M_undo) 19 = .ok (.iconst 1, 1) := by decide +kernel
theorem d_M_undo_20 : decode (ab_bc mt_M_undo) 20 = .ok (.isub, 1) := by decide +kernel
theorem d_M_undo_21 : decode (ab_bc mt_M_undo) 21 = .ok (.putfield 212, 3) := by decide +kernel
theorem d_M_undo_24 : decode (ab_bc mt_M_undo) 24 = .ok (.iconst 0, 1) := by decide +kernel
theorem d_M_undo_25 : decode (ab_bc mt_M_undo) 25 = .ok (.istore_n 1, 1) := by decide +kernel
theorem d_M_undo_26 : decode (ab_bc mt_M_undo) 26 = .ok (.iload_n 1, 1) := by decide +kernel
theorem d_M_undo_27 : decode (ab_bc mt_M_undo) 27 = .ok (.sipush 399, 3) := by decide +kernel
theorem d_M_undo_30 : decode (ab_bc mt_M_undo) 30 = .ok (.if_icmp .ge 30, 3) := by decide +kernel
theorem d_M_undo_33 : decode (ab_bc mt_M_undo) 33 = .ok (.aload_n 0, 1) := by decide +kernel
theorem d_M_undo_34 : decode (ab_bc mt_M_undo) 34 = .ok (.getfield 24, 3) := by decide +kernel
theorem d_M_undo_37 : decode (ab_bc mt_M_undo) 37 = .ok (.iload_n 1, 1) := by decide +kernel
theorem d_M_undo_38 : decode (ab_bc mt_M_undo) 38 = .ok (.aload_n 0, 1) := by decide +kernel
theorem d_M_undo_39 : decode (ab_bc mt_M_undo) 39 = .ok (.getfield 81, 3) := by decide +kernel
theorem d_M_undo_42 : decode (ab_bc mt_M_undo) 42 = .ok (.sipush 399, 3) := by decide +kernel
theorem d_M_undo_45 : decode (ab_bc mt_M_undo) 45 = .ok (.aload_n 0, 1) := by decide +kernel
theorem d_M_undo_46 : decode (ab_bc mt_M_undo) 46 = .ok (.getfield 212, 3) := by decide +kernel
theorem d_M_undo_49 : decode (ab_bc mt_M_undo) 49 = .ok (.imul, 1) := by decide +kernel
theorem d_M_undo_50 : decode (ab_bc mt_M_undo) 50 = .ok (.iload_n 1, 1) := by decide +kernel
theorem d_M_undo_51 : decode (ab_bc mt_M_undo) 51 = .ok (.iadd, 1) := by decide +kernel
theorem d_M_undo_52 : decode (ab_bc mt_M_undo) 52 = .ok (.iaload, 1) := by decide +kernel
theorem d_M_undo_53 : decode (ab_bc mt_M_undo) 53 = .ok (.iastore, 1) := by decide +kernel
theorem d_M_undo_54 : decode (ab_bc mt_M_undo) 54 = .ok (.iinc 1 1, 3) := by decide +kernel
theorem d_M_undo_57 : decode (ab_bc mt_M_undo) 57 = .ok (.goto (-31), 3) := by decide +kernel
theorem d_M_undo_60 : decode (ab_bc mt_M_undo) 60 = .ok (.aload_n 0, 1) := by decide +kernel
theorem d_M_undo_61 : decode (ab_bc mt_M_undo) 61 = .ok (.getfield 212, 3) := by decide +kernel
theorem d_M_undo_64 : decode (ab_bc mt_M_undo) 64 = .ok (.ireturn, 1) := by decide +kernel
-- CableKeeperModel.undo()I over mx
theorem q_M_undo_0 {w : ab_Wd} {d n nc ns : Nat} {I : Nat → Nat → Int32} {L : Nat → Nat → Int64} {res : ab_Re}  (hc : nc ≤ res.2.2.2.2.2.1) (hs : ns ≤ res.2.2.2.2.2.2)
    (h : ((¬ (I mx 41) = 0 → (ab_E w d mt_M_undo 26 [.ref mx, .int 0] [] ((ab_up (ab_up I mx 1 0) mx 41 ((I mx 41) - 1)), L, ab_RR, n, nc, ns) res)) ∧ ((I mx 41) = 0 → (res = (.inl (some (.int (-1))), ((ab_up I mx 1 0), L, ab_RR, n, nc, ns)))))) : ab_E w d mt_M_undo 0 [.ref mx, .null] [] (I, L, ab_RR, n, nc, ns) res := by
  refine ab_aload_n (i := 0) d_M_undo_0 rfl rfl ?_
  refine ab_iconst (v := 0) d_M_undo_1 rfl ?_
  refine ab_putI (ci := 11) (k := 1) d_M_undo_2 v_1369 rfl (by decide) (by decide) rfl (Or.inl rfl) rfl rfl ?_
  refine ab_aload_n (i := 0) d_M_undo_5 rfl rfl ?_
  refine ab_getI (ci := 11) (k := 41) d_M_undo_6 v_1409 rfl (by decide) (by decide) rfl ?_
  refine ab_if_ne (tgt := 14) d_M_undo_9 (by decide) (fun c1 => ?_) (fun c1 => ?_)
  · have h := h.1 c1
    refine ab_aload_n (i := 0) d_M_undo_14 rfl rfl ?_
    refine ab_dupr d_M_undo_15 ?_
    refine ab_getI (ci := 11) (k := 41) d_M_undo_16 v_1409 rfl (by decide) (by decide) rfl ?_
    refine ab_iconst (v := 1) d_M_undo_19 rfl ?_
    refine ab_isub d_M_undo_20 ?_
    refine ab_putI (ci := 11) (k := 41) d_M_undo_21 v_1409 rfl (by decide) (by decide) rfl (Or.inl rfl) rfl rfl ?_
    refine ab_iconst (v := 0) d_M_undo_24 rfl ?_
    refine ab_istore_n (i := 1) d_M_undo_25 rfl (by decide) (Or.inr rfl) ?_
    exact h
  · have h := h.2 c1
    refine ab_iconst (v := (-1)) d_M_undo_12 rfl ?_
    exact ab_iret (ty := .int) d_M_undo_13 rfl rfl h
theorem q_M_undo_26 {w : ab_Wd} {d n nc ns : Nat} {I : Nat → Nat → Int32} {L : Nat → Nat → Int64} {res : ab_Re} (v1 : Int32) (hc : nc ≤ res.2.2.2.2.2.1) (hs : ns ≤ res.2.2.2.2.2.2)
    (h : ((399 ≤ v1 → (res = (.inl (some (.int (I mx 41))), (I, L, ab_RR, n, nc, ns)))) ∧ (¬ 399 ≤ v1 → ((vp_in ((399 * (I mx 41)) + v1) 15960) ∧ (vp_in v1 399) ∧ ab_E w d mt_M_undo 26 [.ref mx, .int (v1 + 1)] [] ((ab_up I mx_now v1.toNatClampNeg (I mx_past ((399 * (I mx 41)) + v1).toNatClampNeg)), L, ab_RR, n, nc, ns) res)))) : ab_E w d mt_M_undo 26 [.ref mx, .int v1] [] (I, L, ab_RR, n, nc, ns) res := by
  refine ab_iload_n (i := 1) d_M_undo_26 rfl rfl ?_
  refine ab_sipush (v := 399) d_M_undo_27 rfl ?_
  refine ab_icmp_ge (tgt := 60) d_M_undo_30 (by decide) (fun c1 => ?_) (fun c1 => ?_)
  · have h := h.1 c1
    refine ab_aload_n (i := 0) d_M_undo_60 rfl rfl ?_
    refine ab_getI (ci := 11) (k := 41) d_M_undo_61 v_1409 rfl (by decide) (by decide) rfl ?_
    exact ab_iret (ty := .int) d_M_undo_64 rfl rfl h
  · have h := h.2 c1
    refine ab_aload_n (i := 0) d_M_undo_33 rfl rfl ?_
    refine ab_getR (ci := 11) (k := 4) (j := mx_now) d_M_undo_34 v_1372 rfl (by decide) (by decide) rfl r_mx_4 ?_
    refine ab_iload_n (i := 1) d_M_undo_37 rfl rfl ?_
    refine ab_aload_n (i := 0) d_M_undo_38 rfl rfl ?_
    refine ab_getR (ci := 11) (k := 42) (j := mx_past) d_M_undo_39 v_1410 rfl (by decide) (by decide) rfl r_mx_42 ?_
    refine ab_sipush (v := 399) d_M_undo_42 rfl ?_
    refine ab_aload_n (i := 0) d_M_undo_45 rfl rfl ?_
    refine ab_getI (ci := 11) (k := 41) d_M_undo_46 v_1409 rfl (by decide) (by decide) rfl ?_
    refine ab_imul d_M_undo_49 ?_
    refine ab_iload_n (i := 1) d_M_undo_50 rfl rfl ?_
    refine ab_iadd d_M_undo_51 ?_
    have g2 := h.1; have h := h.2
    refine ab_iald d_M_undo_52 rfl rfl g2 ?_
    have g3 := h.1; have h := h.2
    refine ab_iast d_M_undo_53 rfl rfl g3 ?_
    refine ab_iinc (i := 1) (v := (v1 + 1)) d_M_undo_54 rfl rfl (by decide) (Or.inr rfl) ?_
    refine ab_goto (tgt := 26) d_M_undo_57 (by decide) ?_
    exact h
