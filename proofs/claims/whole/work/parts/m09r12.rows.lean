theorem r_M_way_0 {w : ab_Wd} {d n nc ns : Nat} {I : Nat → Nat → Int32} {L : Nat → Nat → Int64} {res : ab_Re} (hT : w.1.stackTraces = false) (v1 : Int32) (v2 : Int32) (v3 : Int32) (hc : nc ≤ res.2.2.2.2.2.1) (hs : ns ≤ res.2.2.2.2.2.2)
    (h : ((v1 < 0 → (res = (.inl (some (.int 0)), ((ab_up (ab_up I mx 1 0) mx 1 1), L, ab_RR, n, nc, ns)))) ∧ (¬ v1 < 0 → ((((I mx 2) - 1) < v1 → (res = (.inl (some (.int 0)), ((ab_up (ab_up I mx 1 0) mx 1 1), L, ab_RR, n, nc, ns)))) ∧ (¬ ((I mx 2) - 1) < v1 → ((v2 < 0 → (res = (.inl (some (.int 0)), ((ab_up (ab_up I mx 1 0) mx 1 1), L, ab_RR, n, nc, ns)))) ∧ (¬ v2 < 0 → ((((I mx 2) - 1) < v2 → (res = (.inl (some (.int 0)), ((ab_up (ab_up I mx 1 0) mx 1 1), L, ab_RR, n, nc, ns)))) ∧ (¬ ((I mx 2) - 1) < v2 → ((v3 < 0 → (res = (.inl (some (.int 0)), ((ab_up (ab_up I mx 1 0) mx 1 1), L, ab_RR, n, nc, ns)))) ∧ (¬ v3 < 0 → ((4 < v3 → (res = (.inl (some (.int 0)), ((ab_up (ab_up I mx 1 0) mx 1 1), L, ab_RR, n, nc, ns)))) ∧ (¬ 4 < v3 → ((v3 ≤ 2 → (∃ (r23 : Int32) (I24 : Nat → Nat → Int32), ab_C w (d + 1) mt_M_netNow [.ref mx] ((ab_up I mx 1 0), L, ab_RR, n, nc, ns) (.inl (some (.int r23)), (I24, L, ab_RR, n, nc, ns)) ∧ ∃ (r25 : Int32) (I26 : Nat → Nat → Int32), ab_C w (d + 1) mt_M_tellWay [.ref mx, .int r23, .int v1, .int v2] (I24, L, ab_RR, n, nc, ns) (.inl (some (.int r25)), (I26, L, ab_RR, n, nc, ns)) ∧ ((¬ r25 = (-1) → ((¬ v3 = 2 → ((¬ v3 = 1 → ((¬ r25 = 0 → (∃ (r31 : Int32), ab_C w (d + 1) mt_M_dearestOnWay [.ref mx] (I26, L, ab_RR, n, nc, ns) (.inl (some (.int r31)), (I26, L, ab_RR, n, nc, ns)) ∧ (vp_in (51 + r31) 399) ∧ res = (.inl (some (.int (I26 mx_now (51 + r31).toNatClampNeg))), (I26, L, ab_RR, n, nc, ns)))) ∧ (r25 = 0 → (res = (.inl (some (.int 0)), (I26, L, ab_RR, n, nc, ns)))))) ∧ (v3 = 1 → (∃ (r34 : Int32), ab_C w (d + 1) mt_M_pricesOnWay [.ref mx] (I26, L, ab_RR, n, nc, ns) (.inl (some (.int r34)), (I26, L, ab_RR, n, nc, ns)) ∧ res = (.inl (some (.int r34)), (I26, L, ab_RR, n, nc, ns)))))) ∧ (v3 = 2 → (res = (.inl (some (.int r25)), (I26, L, ab_RR, n, nc, ns)))))) ∧ (r25 = (-1) → (res = (.inl (some (.int (-1))), (I26, L, ab_RR, n, nc, ns))))))) ∧ (¬ v3 ≤ 2 → ((¬ v3 = 3 → (∃ (r36 : Int32) (I37 : Nat → Nat → Int32), ab_C w (d + 1) mt_M_apartOf [.ref mx, .int v1, .int v2] ((ab_up I mx 1 0), L, ab_RR, n, nc, ns) (.inl (some (.int r36)), (I37, L, ab_RR, n, nc, ns)) ∧ res = (.inl (some (.int r36)), (I37, L, ab_RR, n, nc, ns)))) ∧ (v3 = 3 → (∃ (r38 : Int32) (I39 : Nat → Nat → Int32), ab_C w (d + 1) mt_M_shortOf [.ref mx, .int v1, .int v2] ((ab_up I mx 1 0), L, ab_RR, n, nc, ns) (.inl (some (.int r38)), (I39, L, ab_RR, n, nc, ns)) ∧ res = (.inl (some (.int r38)), (I39, L, ab_RR, n, nc, ns)))))))))))))))))))) : ab_E w (d + 2) mt_M_way 0 [.ref mx, .int v1, .int v2, .int v3, .null] [] (I, L, ab_RR, n, nc, ns) res := by
  refine ab_aload_n (i := 0) d_M_way_0 rfl rfl ?_
  refine ab_iconst (v := 0) d_M_way_1 rfl ?_
  refine ab_putI (ci := 11) (k := 1) d_M_way_2 v_1369 rfl (by decide) (by decide) rfl (Or.inl rfl) rfl rfl ?_
  refine ab_aload_n (i := 0) d_M_way_5 rfl rfl ?_
  refine ab_iload_n (i := 1) d_M_way_6 rfl rfl ?_
  by_cases c2 : v1 < 0
  · have h := h.1 c2
    refine ab_callV (me2 := mt_M_isSite) (b := mx) (as := [.int v1]) (st := []) (rv := (some (.int 0))) (M2 := ((ab_up I mx 1 0), L, ab_RR, n, nc, ns)) d_M_way_7 ce_M_isSite v_1783 v_1785 v_110 (by decide) rfl (Nat.le_of_ble_eq_true rfl) (cx_M_isSite_0 v1 hT c2) (Nat.le_refl _) (Nat.le_refl _) hc hs (fun j h9 => by cases h9) (fun _ _ => rfl) ?_
    show ab_E w (d + 2) mt_M_way 10 [.ref mx, .int v1, .int v2, .int v3, .null] [.int 0] ((ab_up I mx 1 0), L, ab_RR, n, nc, ns) res
    refine ab_if_eq (tgt := 30) d_M_way_10 (by decide) (fun _ => ?_) (fun c9 => absurd (show (0 : Int32) = 0 from by decide) c9)
    refine ab_aload_n (i := 0) d_M_way_30 rfl rfl ?_
    refine ab_iconst (v := 1) d_M_way_31 rfl ?_
    refine ab_callV (me2 := mt_M_fail) (b := mx) (as := [.int 1]) (st := []) (rv := (some (.int 0))) (M2 := ((ab_up (ab_up I mx 1 0) mx 1 1), L, ab_RR, n, nc, ns)) d_M_way_32 ce_M_fail v_1562 v_1564 v_66 (by decide) rfl (Nat.le_of_ble_eq_true rfl) (cx_M_fail_0 1 hT) (Nat.le_refl _) (Nat.le_refl _) hc hs (fun j h9 => by cases h9) (fun _ _ => rfl) ?_
    show ab_E w (d + 2) mt_M_way 35 [.ref mx, .int v1, .int v2, .int v3, .null] [.int 0] ((ab_up (ab_up I mx 1 0) mx 1 1), L, ab_RR, n, nc, ns) res
    exact ab_iret (ty := .int) d_M_way_35 rfl rfl h
  · have h := h.2 c2
    by_cases c5 : ((I mx 2) - 1) < v1
    · have h := h.1 c5
      refine ab_callV (me2 := mt_M_isSite) (b := mx) (as := [.int v1]) (st := []) (rv := (some (.int 0))) (M2 := ((ab_up I mx 1 0), L, ab_RR, n, nc, ns)) d_M_way_7 ce_M_isSite v_1783 v_1785 v_110 (by decide) rfl (Nat.le_of_ble_eq_true rfl) (cx_M_isSite_1 v1 hT c2 c5) (Nat.le_refl _) (Nat.le_refl _) hc hs (fun j h9 => by cases h9) (fun _ _ => rfl) ?_
      show ab_E w (d + 2) mt_M_way 10 [.ref mx, .int v1, .int v2, .int v3, .null] [.int 0] ((ab_up I mx 1 0), L, ab_RR, n, nc, ns) res
      refine ab_if_eq (tgt := 30) d_M_way_10 (by decide) (fun _ => ?_) (fun c9 => absurd (show (0 : Int32) = 0 from by decide) c9)
      refine ab_aload_n (i := 0) d_M_way_30 rfl rfl ?_
      refine ab_iconst (v := 1) d_M_way_31 rfl ?_
      refine ab_callV (me2 := mt_M_fail) (b := mx) (as := [.int 1]) (st := []) (rv := (some (.int 0))) (M2 := ((ab_up (ab_up I mx 1 0) mx 1 1), L, ab_RR, n, nc, ns)) d_M_way_32 ce_M_fail v_1562 v_1564 v_66 (by decide) rfl (Nat.le_of_ble_eq_true rfl) (cx_M_fail_0 1 hT) (Nat.le_refl _) (Nat.le_refl _) hc hs (fun j h9 => by cases h9) (fun _ _ => rfl) ?_
      show ab_E w (d + 2) mt_M_way 35 [.ref mx, .int v1, .int v2, .int v3, .null] [.int 0] ((ab_up (ab_up I mx 1 0) mx 1 1), L, ab_RR, n, nc, ns) res
      exact ab_iret (ty := .int) d_M_way_35 rfl rfl h
    · have h := h.2 c5
      refine ab_callV (me2 := mt_M_isSite) (b := mx) (as := [.int v1]) (st := []) (rv := (some (.int 1))) (M2 := ((ab_up I mx 1 0), L, ab_RR, n, nc, ns)) d_M_way_7 ce_M_isSite v_1783 v_1785 v_110 (by decide) rfl (Nat.le_of_ble_eq_true rfl) (cx_M_isSite_2 v1 hT c2 c5) (Nat.le_refl _) (Nat.le_refl _) hc hs (fun j h9 => by cases h9) (fun _ _ => rfl) ?_
      show ab_E w (d + 2) mt_M_way 10 [.ref mx, .int v1, .int v2, .int v3, .null] [.int 1] ((ab_up I mx 1 0), L, ab_RR, n, nc, ns) res
      refine ab_if_eq (tgt := 30) d_M_way_10 (by decide) (fun c9 => absurd c9 (show ¬ (1 : Int32) = 0 from by decide)) (fun _ => ?_)
      refine ab_aload_n (i := 0) d_M_way_13 rfl rfl ?_
      refine ab_iload_n (i := 2) d_M_way_14 rfl rfl ?_
      by_cases c9 : v2 < 0
      · have h := h.1 c9
        refine ab_callV (me2 := mt_M_isSite) (b := mx) (as := [.int v2]) (st := []) (rv := (some (.int 0))) (M2 := ((ab_up I mx 1 0), L, ab_RR, n, nc, ns)) d_M_way_15 ce_M_isSite v_1783 v_1785 v_110 (by decide) rfl (Nat.le_of_ble_eq_true rfl) (cx_M_isSite_0 v2 hT c9) (Nat.le_refl _) (Nat.le_refl _) hc hs (fun j h9 => by cases h9) (fun _ _ => rfl) ?_
        show ab_E w (d + 2) mt_M_way 18 [.ref mx, .int v1, .int v2, .int v3, .null] [.int 0] ((ab_up I mx 1 0), L, ab_RR, n, nc, ns) res
        refine ab_if_eq (tgt := 30) d_M_way_18 (by decide) (fun _ => ?_) (fun c9 => absurd (show (0 : Int32) = 0 from by decide) c9)
        refine ab_aload_n (i := 0) d_M_way_30 rfl rfl ?_
        refine ab_iconst (v := 1) d_M_way_31 rfl ?_
        refine ab_callV (me2 := mt_M_fail) (b := mx) (as := [.int 1]) (st := []) (rv := (some (.int 0))) (M2 := ((ab_up (ab_up I mx 1 0) mx 1 1), L, ab_RR, n, nc, ns)) d_M_way_32 ce_M_fail v_1562 v_1564 v_66 (by decide) rfl (Nat.le_of_ble_eq_true rfl) (cx_M_fail_0 1 hT) (Nat.le_refl _) (Nat.le_refl _) hc hs (fun j h9 => by cases h9) (fun _ _ => rfl) ?_
        show ab_E w (d + 2) mt_M_way 35 [.ref mx, .int v1, .int v2, .int v3, .null] [.int 0] ((ab_up (ab_up I mx 1 0) mx 1 1), L, ab_RR, n, nc, ns) res
        exact ab_iret (ty := .int) d_M_way_35 rfl rfl h
      · have h := h.2 c9
        by_cases c12 : ((I mx 2) - 1) < v2
        · have h := h.1 c12
          refine ab_callV (me2 := mt_M_isSite) (b := mx) (as := [.int v2]) (st := []) (rv := (some (.int 0))) (M2 := ((ab_up I mx 1 0), L, ab_RR, n, nc, ns)) d_M_way_15 ce_M_isSite v_1783 v_1785 v_110 (by decide) rfl (Nat.le_of_ble_eq_true rfl) (cx_M_isSite_1 v2 hT c9 c12) (Nat.le_refl _) (Nat.le_refl _) hc hs (fun j h9 => by cases h9) (fun _ _ => rfl) ?_
          show ab_E w (d + 2) mt_M_way 18 [.ref mx, .int v1, .int v2, .int v3, .null] [.int 0] ((ab_up I mx 1 0), L, ab_RR, n, nc, ns) res
          refine ab_if_eq (tgt := 30) d_M_way_18 (by decide) (fun _ => ?_) (fun c9 => absurd (show (0 : Int32) = 0 from by decide) c9)
          refine ab_aload_n (i := 0) d_M_way_30 rfl rfl ?_
          refine ab_iconst (v := 1) d_M_way_31 rfl ?_
          refine ab_callV (me2 := mt_M_fail) (b := mx) (as := [.int 1]) (st := []) (rv := (some (.int 0))) (M2 := ((ab_up (ab_up I mx 1 0) mx 1 1), L, ab_RR, n, nc, ns)) d_M_way_32 ce_M_fail v_1562 v_1564 v_66 (by decide) rfl (Nat.le_of_ble_eq_true rfl) (cx_M_fail_0 1 hT) (Nat.le_refl _) (Nat.le_refl _) hc hs (fun j h9 => by cases h9) (fun _ _ => rfl) ?_
          show ab_E w (d + 2) mt_M_way 35 [.ref mx, .int v1, .int v2, .int v3, .null] [.int 0] ((ab_up (ab_up I mx 1 0) mx 1 1), L, ab_RR, n, nc, ns) res
          exact ab_iret (ty := .int) d_M_way_35 rfl rfl h
        · have h := h.2 c12
          refine ab_callV (me2 := mt_M_isSite) (b := mx) (as := [.int v2]) (st := []) (rv := (some (.int 1))) (M2 := ((ab_up I mx 1 0), L, ab_RR, n, nc, ns)) d_M_way_15 ce_M_isSite v_1783 v_1785 v_110 (by decide) rfl (Nat.le_of_ble_eq_true rfl) (cx_M_isSite_2 v2 hT c9 c12) (Nat.le_refl _) (Nat.le_refl _) hc hs (fun j h9 => by cases h9) (fun _ _ => rfl) ?_
          show ab_E w (d + 2) mt_M_way 18 [.ref mx, .int v1, .int v2, .int v3, .null] [.int 1] ((ab_up I mx 1 0), L, ab_RR, n, nc, ns) res
          refine ab_if_eq (tgt := 30) d_M_way_18 (by decide) (fun c9 => absurd c9 (show ¬ (1 : Int32) = 0 from by decide)) (fun _ => ?_)
          refine ab_iload_n (i := 3) d_M_way_21 rfl rfl ?_
          refine ab_iconst (v := 0) d_M_way_22 rfl ?_
          refine ab_iconst (v := 4) d_M_way_23 rfl ?_
          by_cases c16 : v3 < 0
          · have h := h.1 c16
            refine ab_callS (me2 := mt_M_isIn) (as := [.int v3, .int 0, .int 4]) (st := []) (rv := (some (.int 0))) (M2 := ((ab_up I mx 1 0), L, ab_RR, n, nc, ns)) d_M_way_24 ce_M_isIn ⟨v_1753, Or.inl v_1752⟩ (Nat.le_of_ble_eq_true rfl) (cx_M_isIn_0 v3 0 4 hT c16) (Nat.le_refl _) (Nat.le_refl _) hc hs (fun j h9 => by cases h9) (fun _ _ => rfl) ?_
            show ab_E w (d + 2) mt_M_way 27 [.ref mx, .int v1, .int v2, .int v3, .null] [.int 0] ((ab_up I mx 1 0), L, ab_RR, n, nc, ns) res
            refine ab_if_ne (tgt := 36) d_M_way_27 (by decide) (fun c9 => absurd (show (0 : Int32) = 0 from by decide) c9) (fun _ => ?_)
            refine ab_aload_n (i := 0) d_M_way_30 rfl rfl ?_
            refine ab_iconst (v := 1) d_M_way_31 rfl ?_
            refine ab_callV (me2 := mt_M_fail) (b := mx) (as := [.int 1]) (st := []) (rv := (some (.int 0))) (M2 := ((ab_up (ab_up I mx 1 0) mx 1 1), L, ab_RR, n, nc, ns)) d_M_way_32 ce_M_fail v_1562 v_1564 v_66 (by decide) rfl (Nat.le_of_ble_eq_true rfl) (cx_M_fail_0 1 hT) (Nat.le_refl _) (Nat.le_refl _) hc hs (fun j h9 => by cases h9) (fun _ _ => rfl) ?_
            show ab_E w (d + 2) mt_M_way 35 [.ref mx, .int v1, .int v2, .int v3, .null] [.int 0] ((ab_up (ab_up I mx 1 0) mx 1 1), L, ab_RR, n, nc, ns) res
            exact ab_iret (ty := .int) d_M_way_35 rfl rfl h
          · have h := h.2 c16
            by_cases c19 : 4 < v3
            · have h := h.1 c19
              refine ab_callS (me2 := mt_M_isIn) (as := [.int v3, .int 0, .int 4]) (st := []) (rv := (some (.int 0))) (M2 := ((ab_up I mx 1 0), L, ab_RR, n, nc, ns)) d_M_way_24 ce_M_isIn ⟨v_1753, Or.inl v_1752⟩ (Nat.le_of_ble_eq_true rfl) (cx_M_isIn_1 v3 0 4 hT c16 c19) (Nat.le_refl _) (Nat.le_refl _) hc hs (fun j h9 => by cases h9) (fun _ _ => rfl) ?_
              show ab_E w (d + 2) mt_M_way 27 [.ref mx, .int v1, .int v2, .int v3, .null] [.int 0] ((ab_up I mx 1 0), L, ab_RR, n, nc, ns) res
              refine ab_if_ne (tgt := 36) d_M_way_27 (by decide) (fun c9 => absurd (show (0 : Int32) = 0 from by decide) c9) (fun _ => ?_)
              refine ab_aload_n (i := 0) d_M_way_30 rfl rfl ?_
              refine ab_iconst (v := 1) d_M_way_31 rfl ?_
              refine ab_callV (me2 := mt_M_fail) (b := mx) (as := [.int 1]) (st := []) (rv := (some (.int 0))) (M2 := ((ab_up (ab_up I mx 1 0) mx 1 1), L, ab_RR, n, nc, ns)) d_M_way_32 ce_M_fail v_1562 v_1564 v_66 (by decide) rfl (Nat.le_of_ble_eq_true rfl) (cx_M_fail_0 1 hT) (Nat.le_refl _) (Nat.le_refl _) hc hs (fun j h9 => by cases h9) (fun _ _ => rfl) ?_
              show ab_E w (d + 2) mt_M_way 35 [.ref mx, .int v1, .int v2, .int v3, .null] [.int 0] ((ab_up (ab_up I mx 1 0) mx 1 1), L, ab_RR, n, nc, ns) res
              exact ab_iret (ty := .int) d_M_way_35 rfl rfl h
            · have h := h.2 c19
              refine ab_callS (me2 := mt_M_isIn) (as := [.int v3, .int 0, .int 4]) (st := []) (rv := (some (.int 1))) (M2 := ((ab_up I mx 1 0), L, ab_RR, n, nc, ns)) d_M_way_24 ce_M_isIn ⟨v_1753, Or.inl v_1752⟩ (Nat.le_of_ble_eq_true rfl) (cx_M_isIn_2 v3 0 4 hT c16 c19) (Nat.le_refl _) (Nat.le_refl _) hc hs (fun j h9 => by cases h9) (fun _ _ => rfl) ?_
              show ab_E w (d + 2) mt_M_way 27 [.ref mx, .int v1, .int v2, .int v3, .null] [.int 1] ((ab_up I mx 1 0), L, ab_RR, n, nc, ns) res
              refine ab_if_ne (tgt := 36) d_M_way_27 (by decide) (fun _ => ?_) (fun c9 => absurd c9 (show ¬ (1 : Int32) = 0 from by decide))
              refine ab_iload_n (i := 3) d_M_way_36 rfl rfl ?_
              refine ab_iconst (v := 2) d_M_way_37 rfl ?_
              refine ab_icmp_le (tgt := 62) d_M_way_38 (by decide) (fun c22 => ?_) (fun c22 => ?_)
              · have h := h.1 c22
                refine ab_aload_n (i := 0) d_M_way_62 rfl rfl ?_
                refine ab_aload_n (i := 0) d_M_way_63 rfl rfl ?_
                obtain ⟨r23, I24, hC, h⟩ := h
                refine ab_callV (me2 := mt_M_netNow) (b := mx) (as := []) (st := [.ref mx]) (rv := (some (.int r23))) (M2 := (I24, L, ab_RR, n, nc, ns)) d_M_way_64 ce_M_netNow v_1639 v_1641 v_80 (by decide) rfl (Nat.le_of_ble_eq_true rfl) hC (Nat.le_refl _) (Nat.le_refl _) hc hs (fun j h9 => by cases h9) (fun _ _ => rfl) ?_
                show ab_E w (d + 2) mt_M_way 67 [.ref mx, .int v1, .int v2, .int v3, .null] [.int r23, .ref mx] (I24, L, ab_RR, n, nc, ns) res
                refine ab_iload_n (i := 1) d_M_way_67 rfl rfl ?_
                refine ab_iload_n (i := 2) d_M_way_68 rfl rfl ?_
                obtain ⟨r25, I26, hC, h⟩ := h
                refine ab_callV (me2 := mt_M_tellWay) (b := mx) (as := [.int r23, .int v1, .int v2]) (st := []) (rv := (some (.int r25))) (M2 := (I26, L, ab_RR, n, nc, ns)) d_M_way_69 ce_M_tellWay v_1687 v_1689 v_91 (by decide) rfl (Nat.le_of_ble_eq_true rfl) hC (Nat.le_refl _) (Nat.le_refl _) hc hs (fun j h9 => by cases h9) (fun _ _ => rfl) ?_
                show ab_E w (d + 2) mt_M_way 72 [.ref mx, .int v1, .int v2, .int v3, .null] [.int r25] (I26, L, ab_RR, n, nc, ns) res
                refine ab_istore (i := 4) d_M_way_72 (by decide) (Or.inr rfl) ?_
                refine ab_iload (i := 4) d_M_way_74 rfl ?_
                refine ab_iconst (v := (-1)) d_M_way_76 rfl ?_
                refine ab_icmp_ne (tgt := 82) d_M_way_77 (by decide) (fun c27 => ?_) (fun c27 => ?_)
                · have h := h.1 c27
                  refine ab_iload_n (i := 3) d_M_way_82 rfl rfl ?_
                  refine ab_iconst (v := 2) d_M_way_83 rfl ?_
                  refine ab_icmp_ne (tgt := 92) d_M_way_84 (by decide) (fun c28 => ?_) (fun c28 => ?_)
                  · have h := h.1 c28
                    refine ab_iload_n (i := 3) d_M_way_92 rfl rfl ?_
                    refine ab_iconst (v := 1) d_M_way_93 rfl ?_
                    refine ab_icmp_ne (tgt := 104) d_M_way_94 (by decide) (fun c29 => ?_) (fun c29 => ?_)
                    · have h := h.1 c29
                      refine ab_iload (i := 4) d_M_way_104 rfl ?_
                      refine ab_if_ne (tgt := 113) d_M_way_106 (by decide) (fun c30 => ?_) (fun c30 => ?_)
                      · have h := h.1 c30
                        refine ab_aload_n (i := 0) d_M_way_113 rfl rfl ?_
                        refine ab_aload_n (i := 0) d_M_way_114 rfl rfl ?_
                        obtain ⟨r31, hC, h⟩ := h
                        refine ab_callV (me2 := mt_M_dearestOnWay) (b := mx) (as := []) (st := [.ref mx]) (rv := (some (.int r31))) (M2 := (I26, L, ab_RR, n, nc, ns)) d_M_way_115 ce_M_dearestOnWay v_1695 v_1697 v_93 (by decide) rfl (Nat.le_of_ble_eq_true rfl) hC (Nat.le_refl _) (Nat.le_refl _) hc hs (fun j h9 => by cases h9) (fun _ _ => rfl) ?_
                        show ab_E w (d + 2) mt_M_way 118 [.ref mx, .int v1, .int v2, .int v3, .int r25] [.int r31, .ref mx] (I26, L, ab_RR, n, nc, ns) res
                        have g33 := h.1; have h := h.2
                        refine ab_callV (me2 := mt_M_priceOf) (b := mx) (as := [.int r31]) (st := []) (rv := (some (.int (I26 mx_now (51 + r31).toNatClampNeg)))) (M2 := (I26, L, ab_RR, n, nc, ns)) d_M_way_118 ce_M_priceOf v_1654 v_1656 v_83 (by decide) rfl (Nat.le_of_ble_eq_true rfl) (cx_M_priceOf_0 r31 hT g33) (Nat.le_refl _) (Nat.le_refl _) hc hs (fun j h9 => by cases h9) (fun _ _ => rfl) ?_
                        show ab_E w (d + 2) mt_M_way 121 [.ref mx, .int v1, .int v2, .int v3, .int r25] [.int (I26 mx_now (51 + r31).toNatClampNeg)] (I26, L, ab_RR, n, nc, ns) res
                        exact ab_iret (ty := .int) d_M_way_121 rfl rfl h
                      · have h := h.2 c30
                        refine ab_iconst (v := 0) d_M_way_109 rfl ?_
                        refine ab_goto (tgt := 121) d_M_way_110 (by decide) ?_
                        exact ab_iret (ty := .int) d_M_way_121 rfl rfl h
                    · have h := h.2 c29
                      refine ab_aload_n (i := 0) d_M_way_97 rfl rfl ?_
                      obtain ⟨r34, hC, h⟩ := h
                      refine ab_callV (me2 := mt_M_pricesOnWay) (b := mx) (as := []) (st := []) (rv := (some (.int r34))) (M2 := (I26, L, ab_RR, n, nc, ns)) d_M_way_98 ce_M_pricesOnWay v_1711 v_1713 v_97 (by decide) rfl (Nat.le_of_ble_eq_true rfl) hC (Nat.le_refl _) (Nat.le_refl _) hc hs (fun j h9 => by cases h9) (fun _ _ => rfl) ?_
                      show ab_E w (d + 2) mt_M_way 101 [.ref mx, .int v1, .int v2, .int v3, .int r25] [.int r34] (I26, L, ab_RR, n, nc, ns) res
                      refine ab_goto (tgt := 121) d_M_way_101 (by decide) ?_
                      exact ab_iret (ty := .int) d_M_way_121 rfl rfl h
                  · have h := h.2 c28
                    refine ab_iload (i := 4) d_M_way_87 rfl ?_
                    refine ab_goto (tgt := 121) d_M_way_89 (by decide) ?_
                    exact ab_iret (ty := .int) d_M_way_121 rfl rfl h
                · have h := h.2 c27
                  refine ab_iconst (v := (-1)) d_M_way_80 rfl ?_
                  exact ab_iret (ty := .int) d_M_way_81 rfl rfl h
              · have h := h.2 c22
                refine ab_iload_n (i := 3) d_M_way_41 rfl rfl ?_
                refine ab_iconst (v := 3) d_M_way_42 rfl ?_
                refine ab_icmp_ne (tgt := 55) d_M_way_43 (by decide) (fun c35 => ?_) (fun c35 => ?_)
                · have h := h.1 c35
                  refine ab_aload_n (i := 0) d_M_way_55 rfl rfl ?_
                  refine ab_iload_n (i := 1) d_M_way_56 rfl rfl ?_
                  refine ab_iload_n (i := 2) d_M_way_57 rfl rfl ?_
                  obtain ⟨r36, I37, hC, h⟩ := h
                  refine ab_callV (me2 := mt_M_apartOf) (b := mx) (as := [.int v1, .int v2]) (st := []) (rv := (some (.int r36))) (M2 := (I37, L, ab_RR, n, nc, ns)) d_M_way_58 ce_M_apartOf v_1799 v_1801 v_113 (by decide) rfl (Nat.le_of_ble_eq_true rfl) hC (Nat.le_refl _) (Nat.le_refl _) hc hs (fun j h9 => by cases h9) (fun _ _ => rfl) ?_
                  show ab_E w (d + 2) mt_M_way 61 [.ref mx, .int v1, .int v2, .int v3, .null] [.int r36] (I37, L, ab_RR, n, nc, ns) res
                  exact ab_iret (ty := .int) d_M_way_61 rfl rfl h
                · have h := h.2 c35
                  refine ab_aload_n (i := 0) d_M_way_46 rfl rfl ?_
                  refine ab_iload_n (i := 1) d_M_way_47 rfl rfl ?_
                  refine ab_iload_n (i := 2) d_M_way_48 rfl rfl ?_
                  obtain ⟨r38, I39, hC, h⟩ := h
                  refine ab_callV (me2 := mt_M_shortOf) (b := mx) (as := [.int v1, .int v2]) (st := []) (rv := (some (.int r38))) (M2 := (I39, L, ab_RR, n, nc, ns)) d_M_way_49 ce_M_shortOf v_1795 v_1797 v_112 (by decide) rfl (Nat.le_of_ble_eq_true rfl) hC (Nat.le_refl _) (Nat.le_refl _) hc hs (fun j h9 => by cases h9) (fun _ _ => rfl) ?_
                  show ab_E w (d + 2) mt_M_way 52 [.ref mx, .int v1, .int v2, .int v3, .null] [.int r38] (I39, L, ab_RR, n, nc, ns) res
                  refine ab_goto (tgt := 61) d_M_way_52 (by decide) ?_
                  exact ab_iret (ty := .int) d_M_way_61 rfl rfl h
theorem r_M_share_0 {w : ab_Wd} {d n nc ns : Nat} {I : Nat → Nat → Int32} {L : Nat → Nat → Int64} {res : ab_Re} (hT : w.1.stackTraces = false) (v1 : Int32) (hc : nc ≤ res.2.2.2.2.2.1) (hs : ns ≤ res.2.2.2.2.2.2)
    (h : ((v1 < 0 → (res = (.inl (some (.int 0)), ((ab_up (ab_up I mx 1 0) mx 1 1), L, ab_RR, n, nc, ns)))) ∧ (¬ v1 < 0 → ((((I mx 2) - 1) < v1 → (res = (.inl (some (.int 0)), ((ab_up (ab_up I mx 1 0) mx 1 1), L, ab_RR, n, nc, ns)))) ∧ (¬ ((I mx 2) - 1) < v1 → (∃ (r8 : Int32) (I9 : Nat → Nat → Int32), ab_C w (d + 1) mt_M_netNow [.ref mx] ((ab_up I mx 1 0), L, ab_RR, n, nc, ns) (.inl (some (.int r8)), (I9, L, ab_RR, n, nc, ns)) ∧ ∃ (r10 : Int32) (I11 : Nat → Nat → Int32), ab_C w (d + 1) mt_M_tellWay [.ref mx, .int r8, .int v1, .int 0] (I9, L, ab_RR, n, nc, ns) (.inl (some (.int r10)), (I11, L, ab_RR, n, nc, ns)) ∧ ((¬ r10 = (-1) → ((¬ r10 = 0 → ((vp_in (51 + (I11 mx_way 0)) 399) ∧ res = (.inl (some (.int (I11 mx_now (51 + (I11 mx_way 0)).toNatClampNeg))), (I11, L, ab_RR, n, nc, ns)))) ∧ (r10 = 0 → (res = (.inl (some (.int 0)), (I11, L, ab_RR, n, nc, ns)))))) ∧ (r10 = (-1) → (res = (.inl (some (.int (-1))), (I11, L, ab_RR, n, nc, ns))))))))))) : ab_E w (d + 2) mt_M_share 0 [.ref mx, .int v1, .null] [] (I, L, ab_RR, n, nc, ns) res := by
  refine ab_aload_n (i := 0) d_M_share_0 rfl rfl ?_
  refine ab_iconst (v := 0) d_M_share_1 rfl ?_
  refine ab_putI (ci := 11) (k := 1) d_M_share_2 v_1369 rfl (by decide) (by decide) rfl (Or.inl rfl) rfl rfl ?_
  refine ab_aload_n (i := 0) d_M_share_5 rfl rfl ?_
  refine ab_iload_n (i := 1) d_M_share_6 rfl rfl ?_
  by_cases c2 : v1 < 0
  · have h := h.1 c2
    refine ab_callV (me2 := mt_M_isSite) (b := mx) (as := [.int v1]) (st := []) (rv := (some (.int 0))) (M2 := ((ab_up I mx 1 0), L, ab_RR, n, nc, ns)) d_M_share_7 ce_M_isSite v_1783 v_1785 v_110 (by decide) rfl (Nat.le_of_ble_eq_true rfl) (cx_M_isSite_0 v1 hT c2) (Nat.le_refl _) (Nat.le_refl _) hc hs (fun j h9 => by cases h9) (fun _ _ => rfl) ?_
    show ab_E w (d + 2) mt_M_share 10 [.ref mx, .int v1, .null] [.int 0] ((ab_up I mx 1 0), L, ab_RR, n, nc, ns) res
    refine ab_if_ne (tgt := 19) d_M_share_10 (by decide) (fun c9 => absurd (show (0 : Int32) = 0 from by decide) c9) (fun _ => ?_)
    refine ab_aload_n (i := 0) d_M_share_13 rfl rfl ?_
    refine ab_iconst (v := 1) d_M_share_14 rfl ?_
    refine ab_callV (me2 := mt_M_fail) (b := mx) (as := [.int 1]) (st := []) (rv := (some (.int 0))) (M2 := ((ab_up (ab_up I mx 1 0) mx 1 1), L, ab_RR, n, nc, ns)) d_M_share_15 ce_M_fail v_1562 v_1564 v_66 (by decide) rfl (Nat.le_of_ble_eq_true rfl) (cx_M_fail_0 1 hT) (Nat.le_refl _) (Nat.le_refl _) hc hs (fun j h9 => by cases h9) (fun _ _ => rfl) ?_
    show ab_E w (d + 2) mt_M_share 18 [.ref mx, .int v1, .null] [.int 0] ((ab_up (ab_up I mx 1 0) mx 1 1), L, ab_RR, n, nc, ns) res
    exact ab_iret (ty := .int) d_M_share_18 rfl rfl h
  · have h := h.2 c2
    by_cases c5 : ((I mx 2) - 1) < v1
    · have h := h.1 c5
      refine ab_callV (me2 := mt_M_isSite) (b := mx) (as := [.int v1]) (st := []) (rv := (some (.int 0))) (M2 := ((ab_up I mx 1 0), L, ab_RR, n, nc, ns)) d_M_share_7 ce_M_isSite v_1783 v_1785 v_110 (by decide) rfl (Nat.le_of_ble_eq_true rfl) (cx_M_isSite_1 v1 hT c2 c5) (Nat.le_refl _) (Nat.le_refl _) hc hs (fun j h9 => by cases h9) (fun _ _ => rfl) ?_
      show ab_E w (d + 2) mt_M_share 10 [.ref mx, .int v1, .null] [.int 0] ((ab_up I mx 1 0), L, ab_RR, n, nc, ns) res
      refine ab_if_ne (tgt := 19) d_M_share_10 (by decide) (fun c9 => absurd (show (0 : Int32) = 0 from by decide) c9) (fun _ => ?_)
      refine ab_aload_n (i := 0) d_M_share_13 rfl rfl ?_
      refine ab_iconst (v := 1) d_M_share_14 rfl ?_
      refine ab_callV (me2 := mt_M_fail) (b := mx) (as := [.int 1]) (st := []) (rv := (some (.int 0))) (M2 := ((ab_up (ab_up I mx 1 0) mx 1 1), L, ab_RR, n, nc, ns)) d_M_share_15 ce_M_fail v_1562 v_1564 v_66 (by decide) rfl (Nat.le_of_ble_eq_true rfl) (cx_M_fail_0 1 hT) (Nat.le_refl _) (Nat.le_refl _) hc hs (fun j h9 => by cases h9) (fun _ _ => rfl) ?_
      show ab_E w (d + 2) mt_M_share 18 [.ref mx, .int v1, .null] [.int 0] ((ab_up (ab_up I mx 1 0) mx 1 1), L, ab_RR, n, nc, ns) res
      exact ab_iret (ty := .int) d_M_share_18 rfl rfl h
    · have h := h.2 c5
      refine ab_callV (me2 := mt_M_isSite) (b := mx) (as := [.int v1]) (st := []) (rv := (some (.int 1))) (M2 := ((ab_up I mx 1 0), L, ab_RR, n, nc, ns)) d_M_share_7 ce_M_isSite v_1783 v_1785 v_110 (by decide) rfl (Nat.le_of_ble_eq_true rfl) (cx_M_isSite_2 v1 hT c2 c5) (Nat.le_refl _) (Nat.le_refl _) hc hs (fun j h9 => by cases h9) (fun _ _ => rfl) ?_
      show ab_E w (d + 2) mt_M_share 10 [.ref mx, .int v1, .null] [.int 1] ((ab_up I mx 1 0), L, ab_RR, n, nc, ns) res
      refine ab_if_ne (tgt := 19) d_M_share_10 (by decide) (fun _ => ?_) (fun c9 => absurd c9 (show ¬ (1 : Int32) = 0 from by decide))
      refine ab_aload_n (i := 0) d_M_share_19 rfl rfl ?_
      refine ab_aload_n (i := 0) d_M_share_20 rfl rfl ?_
      obtain ⟨r8, I9, hC, h⟩ := h
      refine ab_callV (me2 := mt_M_netNow) (b := mx) (as := []) (st := [.ref mx]) (rv := (some (.int r8))) (M2 := (I9, L, ab_RR, n, nc, ns)) d_M_share_21 ce_M_netNow v_1639 v_1641 v_80 (by decide) rfl (Nat.le_of_ble_eq_true rfl) hC (Nat.le_refl _) (Nat.le_refl _) hc hs (fun j h9 => by cases h9) (fun _ _ => rfl) ?_
      show ab_E w (d + 2) mt_M_share 24 [.ref mx, .int v1, .null] [.int r8, .ref mx] (I9, L, ab_RR, n, nc, ns) res
      refine ab_iload_n (i := 1) d_M_share_24 rfl rfl ?_
      refine ab_iconst (v := 0) d_M_share_25 rfl ?_
      obtain ⟨r10, I11, hC, h⟩ := h
      refine ab_callV (me2 := mt_M_tellWay) (b := mx) (as := [.int r8, .int v1, .int 0]) (st := []) (rv := (some (.int r10))) (M2 := (I11, L, ab_RR, n, nc, ns)) d_M_share_26 ce_M_tellWay v_1687 v_1689 v_91 (by decide) rfl (Nat.le_of_ble_eq_true rfl) hC (Nat.le_refl _) (Nat.le_refl _) hc hs (fun j h9 => by cases h9) (fun _ _ => rfl) ?_
      show ab_E w (d + 2) mt_M_share 29 [.ref mx, .int v1, .null] [.int r10] (I11, L, ab_RR, n, nc, ns) res
      refine ab_istore_n (i := 2) d_M_share_29 rfl (by decide) (Or.inr rfl) ?_
      refine ab_iload_n (i := 2) d_M_share_30 rfl rfl ?_
      refine ab_iconst (v := (-1)) d_M_share_31 rfl ?_
      refine ab_icmp_ne (tgt := 39) d_M_share_32 (by decide) (fun c12 => ?_) (fun c12 => ?_)
      · have h := h.1 c12
        refine ab_iload_n (i := 2) d_M_share_39 rfl rfl ?_
        refine ab_if_ne (tgt := 47) d_M_share_40 (by decide) (fun c13 => ?_) (fun c13 => ?_)
        · have h := h.1 c13
          refine ab_aload_n (i := 0) d_M_share_47 rfl rfl ?_
          refine ab_aload_n (i := 0) d_M_share_48 rfl rfl ?_
          refine ab_getR (ci := 11) (k := 23) (j := mx_way) d_M_share_49 v_1391 rfl (by decide) (by decide) rfl r_mx_23 ?_
          refine ab_iconst (v := 0) d_M_share_52 rfl ?_
          refine ab_iald d_M_share_53 rfl rfl (by unfold vp_in; decide) ?_
          have g15 := h.1; have h := h.2
          refine ab_callV (me2 := mt_M_priceOf) (b := mx) (as := [.int (I11 mx_way 0)]) (st := []) (rv := (some (.int (I11 mx_now (51 + (I11 mx_way 0)).toNatClampNeg)))) (M2 := (I11, L, ab_RR, n, nc, ns)) d_M_share_54 ce_M_priceOf v_1654 v_1656 v_83 (by decide) rfl (Nat.le_of_ble_eq_true rfl) (cx_M_priceOf_0 (I11 mx_way 0) hT g15) (Nat.le_refl _) (Nat.le_refl _) hc hs (fun j h9 => by cases h9) (fun _ _ => rfl) ?_
          show ab_E w (d + 2) mt_M_share 57 [.ref mx, .int v1, .int r10] [.int (I11 mx_now (51 + (I11 mx_way 0)).toNatClampNeg)] (I11, L, ab_RR, n, nc, ns) res
          exact ab_iret (ty := .int) d_M_share_57 rfl rfl h
        · have h := h.2 c13
          refine ab_iconst (v := 0) d_M_share_43 rfl ?_
          refine ab_goto (tgt := 57) d_M_share_44 (by decide) ?_
          exact ab_iret (ty := .int) d_M_share_57 rfl rfl h
      · have h := h.2 c12
        refine ab_iconst (v := (-1)) d_M_share_35 rfl ?_
        refine ab_goto (tgt := 57) d_M_share_36 (by decide) ?_
        exact ab_iret (ty := .int) d_M_share_57 rfl rfl h
theorem r_M_leftFor_0 {w : ab_Wd} {d n nc ns : Nat} {I : Nat → Nat → Int32} {L : Nat → Nat → Int64} {res : ab_Re} (hT : w.1.stackTraces = false) (v1 : Int32) (hc : nc ≤ res.2.2.2.2.2.1) (hs : ns ≤ res.2.2.2.2.2.2)
    (h : ∃ (r1 : Int32) (I2 : Nat → Nat → Int32), ab_C w d mt_M_netNow [.ref mx] (I, L, ab_RR, n, nc, ns) (.inl (some (.int r1)), (I2, L, ab_RR, n, nc, ns)) ∧ ab_E w (d + 1) mt_M_leftFor 17 [.ref mx, .int v1, .int r1, .int ((I2 mx 21) - 1)] [] ((ab_up I2 mx 33 (-1)), L, ab_RR, n, nc, ns) res) : ab_E w (d + 1) mt_M_leftFor 0 [.ref mx, .int v1, .null, .null] [] (I, L, ab_RR, n, nc, ns) res := by
  refine ab_aload_n (i := 0) d_M_leftFor_0 rfl rfl ?_
  obtain ⟨r1, I2, hC, h⟩ := h
  refine ab_callV (me2 := mt_M_netNow) (b := mx) (as := []) (st := []) (rv := (some (.int r1))) (M2 := (I2, L, ab_RR, n, nc, ns)) d_M_leftFor_1 ce_M_netNow v_1639 v_1641 v_80 (by decide) rfl (Nat.le_of_ble_eq_true rfl) hC (Nat.le_refl _) (Nat.le_refl _) hc hs (fun j h9 => by cases h9) (fun _ _ => rfl) ?_
  show ab_E w (d + 1) mt_M_leftFor 4 [.ref mx, .int v1, .null, .null] [.int r1] (I2, L, ab_RR, n, nc, ns) res
  refine ab_istore_n (i := 2) d_M_leftFor_4 rfl (by decide) (Or.inr rfl) ?_
  refine ab_aload_n (i := 0) d_M_leftFor_5 rfl rfl ?_
  refine ab_iconst (v := (-1)) d_M_leftFor_6 rfl ?_
  refine ab_putI (ci := 11) (k := 33) d_M_leftFor_7 v_1401 rfl (by decide) (by decide) rfl (Or.inl rfl) rfl rfl ?_
  refine ab_aload_n (i := 0) d_M_leftFor_10 rfl rfl ?_
  refine ab_getI (ci := 11) (k := 21) d_M_leftFor_11 v_1389 rfl (by decide) (by decide) rfl ?_
  refine ab_iconst (v := 1) d_M_leftFor_14 rfl ?_
  refine ab_isub d_M_leftFor_15 ?_
  refine ab_istore_n (i := 3) d_M_leftFor_16 rfl (by decide) (Or.inr rfl) ?_
  exact h
theorem r_M_leftFor_17 {w : ab_Wd} {d n nc ns : Nat} {I : Nat → Nat → Int32} {L : Nat → Nat → Int64} {res : ab_Re} (hT : w.1.stackTraces = false) (v1 : Int32) (v2 : Int32) (v3 : Int32) (hc : nc ≤ res.2.2.2.2.2.1) (hs : ns ≤ res.2.2.2.2.2.2)
    (h : ((v3 < 0 → (res = (.inl (some (.int v2)), (I, L, ab_RR, n, nc, ns)))) ∧ (¬ v3 < 0 → ((v1 ≤ (((I mx 2) - v3) - 1) → (res = (.inl (some (.int v2)), (I, L, ab_RR, n, nc, ns)))) ∧ (¬ v1 ≤ (((I mx 2) - v3) - 1) → ((vp_in v3 24) ∧ ab_E w (d + 1) mt_M_leftFor 17 [.ref mx, .int v1, .int (v2 &&& (((1 : Int32) <<< ((I mx_taken v3.toNatClampNeg) &&& 31)) ^^^ (-1))), .int (v3 + (-1))] [] ((ab_up I mx 33 (I mx_taken v3.toNatClampNeg)), L, ab_RR, n, nc, ns) res)))))) : ab_E w (d + 1) mt_M_leftFor 17 [.ref mx, .int v1, .int v2, .int v3] [] (I, L, ab_RR, n, nc, ns) res := by
  refine ab_iload_n (i := 3) d_M_leftFor_17 rfl rfl ?_
  refine ab_if_lt (tgt := 62) d_M_leftFor_18 (by decide) (fun c1 => ?_) (fun c1 => ?_)
  · have h := h.1 c1
    refine ab_iload_n (i := 2) d_M_leftFor_62 rfl rfl ?_
    exact ab_iret (ty := .int) d_M_leftFor_63 rfl rfl h
  · have h := h.2 c1
    refine ab_aload_n (i := 0) d_M_leftFor_21 rfl rfl ?_
    refine ab_getI (ci := 11) (k := 2) d_M_leftFor_22 v_1370 rfl (by decide) (by decide) rfl ?_
    refine ab_iload_n (i := 3) d_M_leftFor_25 rfl rfl ?_
    refine ab_isub d_M_leftFor_26 ?_
    refine ab_iconst (v := 1) d_M_leftFor_27 rfl ?_
    refine ab_isub d_M_leftFor_28 ?_
    refine ab_iload_n (i := 1) d_M_leftFor_29 rfl rfl ?_
    refine ab_icmp_ge (tgt := 62) d_M_leftFor_30 (by decide) (fun c2 => ?_) (fun c2 => ?_)
    · have h := h.1 c2
      refine ab_iload_n (i := 2) d_M_leftFor_62 rfl rfl ?_
      exact ab_iret (ty := .int) d_M_leftFor_63 rfl rfl h
    · have h := h.2 c2
      refine ab_iload_n (i := 2) d_M_leftFor_33 rfl rfl ?_
      refine ab_iconst (v := 1) d_M_leftFor_34 rfl ?_
      refine ab_aload_n (i := 0) d_M_leftFor_35 rfl rfl ?_
      refine ab_getR (ci := 11) (k := 20) (j := mx_taken) d_M_leftFor_36 v_1388 rfl (by decide) (by decide) rfl r_mx_20 ?_
      refine ab_iload_n (i := 3) d_M_leftFor_39 rfl rfl ?_
      have g3 := h.1; have h := h.2
      refine ab_iald d_M_leftFor_40 rfl rfl g3 ?_
      refine ab_ishl d_M_leftFor_41 ?_
      refine ab_iconst (v := (-1)) d_M_leftFor_42 rfl ?_
      refine ab_ixor d_M_leftFor_43 ?_
      refine ab_iand d_M_leftFor_44 ?_
      refine ab_istore_n (i := 2) d_M_leftFor_45 rfl (by decide) (Or.inr rfl) ?_
      refine ab_aload_n (i := 0) d_M_leftFor_46 rfl rfl ?_
      refine ab_aload_n (i := 0) d_M_leftFor_47 rfl rfl ?_
      refine ab_getR (ci := 11) (k := 20) (j := mx_taken) d_M_leftFor_48 v_1388 rfl (by decide) (by decide) rfl r_mx_20 ?_
      refine ab_iload_n (i := 3) d_M_leftFor_51 rfl rfl ?_
      refine ab_iald d_M_leftFor_52 rfl rfl g3 ?_
      refine ab_putI (ci := 11) (k := 33) d_M_leftFor_53 v_1401 rfl (by decide) (by decide) rfl (Or.inl rfl) rfl rfl ?_
      refine ab_iinc (i := 3) (v := (v3 + (-1))) d_M_leftFor_56 rfl rfl (by decide) (Or.inr rfl) ?_
      refine ab_goto (tgt := 17) d_M_leftFor_59 (by decide) ?_
      exact h
theorem r_M_group_0 {w : ab_Wd} {d n nc ns : Nat} {I : Nat → Nat → Int32} {L : Nat → Nat → Int64} {res : ab_Re} (hT : w.1.stackTraces = false) (v1 : Int32) (v2 : Int32) (hc : nc ≤ res.2.2.2.2.2.1) (hs : ns ≤ res.2.2.2.2.2.2)
    (h : ((v1 < 1 → (res = (.inl (some (.int 0)), ((ab_up (ab_up I mx 1 0) mx 1 1), L, ab_RR, n, nc, ns)))) ∧ (¬ v1 < 1 → (((I mx 2) < v1 → (res = (.inl (some (.int 0)), ((ab_up (ab_up I mx 1 0) mx 1 1), L, ab_RR, n, nc, ns)))) ∧ (¬ (I mx 2) < v1 → ((v2 = (-1) → (∃ (r9 : Int32) (I10 : Nat → Nat → Int32), ab_C w (d + 1) mt_M_leftFor [.ref mx, .int v1] ((ab_up I mx 1 0), L, ab_RR, n, nc, ns) (.inl (some (.int r9)), (I10, L, ab_RR, n, nc, ns)) ∧ ((¬ v2 = (-1) → (∃ (r12 : Int32) (I13 : Nat → Nat → Int32), ab_C w (d + 1) mt_M_netOf [.ref mx, .int r9] (I10, L, ab_RR, n, nc, ns) (.inl (some (.int r12)), (I13, L, ab_RR, n, nc, ns)) ∧ (vp_in v2 10) ∧ res = (.inl (some (.int (I13 mx_piece v2.toNatClampNeg))), (I13, L, ab_RR, n, nc, ns)))) ∧ (v2 = (-1) → ((¬ (I10 mx 33) = (-1) → ((vp_in (51 + (I10 mx 33)) 399) ∧ res = (.inl (some (.int (I10 mx_now (51 + (I10 mx 33)).toNatClampNeg))), (I10, L, ab_RR, n, nc, ns)))) ∧ ((I10 mx 33) = (-1) → (res = (.inl (some (.int 0)), (I10, L, ab_RR, n, nc, ns))))))))) ∧ (¬ v2 = (-1) → ((v2 < 0 → (res = (.inl (some (.int 0)), ((ab_up (ab_up I mx 1 0) mx 1 2), L, ab_RR, n, nc, ns)))) ∧ (¬ v2 < 0 → ((((I mx 2) - 1) < v2 → (res = (.inl (some (.int 0)), ((ab_up (ab_up I mx 1 0) mx 1 2), L, ab_RR, n, nc, ns)))) ∧ (¬ ((I mx 2) - 1) < v2 → (∃ (r25 : Int32) (I26 : Nat → Nat → Int32), ab_C w (d + 1) mt_M_leftFor [.ref mx, .int v1] ((ab_up I mx 1 0), L, ab_RR, n, nc, ns) (.inl (some (.int r25)), (I26, L, ab_RR, n, nc, ns)) ∧ ((¬ v2 = (-1) → (∃ (r28 : Int32) (I29 : Nat → Nat → Int32), ab_C w (d + 1) mt_M_netOf [.ref mx, .int r25] (I26, L, ab_RR, n, nc, ns) (.inl (some (.int r28)), (I29, L, ab_RR, n, nc, ns)) ∧ (vp_in v2 10) ∧ res = (.inl (some (.int (I29 mx_piece v2.toNatClampNeg))), (I29, L, ab_RR, n, nc, ns)))) ∧ (v2 = (-1) → ((¬ (I26 mx 33) = (-1) → ((vp_in (51 + (I26 mx 33)) 399) ∧ res = (.inl (some (.int (I26 mx_now (51 + (I26 mx 33)).toNatClampNeg))), (I26, L, ab_RR, n, nc, ns)))) ∧ ((I26 mx 33) = (-1) → (res = (.inl (some (.int 0)), (I26, L, ab_RR, n, nc, ns))))))))))))))))))) : ab_E w (d + 2) mt_M_group 0 [.ref mx, .int v1, .int v2, .null, .null] [] (I, L, ab_RR, n, nc, ns) res := by
  refine ab_aload_n (i := 0) d_M_group_0 rfl rfl ?_
  refine ab_iconst (v := 0) d_M_group_1 rfl ?_
  refine ab_putI (ci := 11) (k := 1) d_M_group_2 v_1369 rfl (by decide) (by decide) rfl (Or.inl rfl) rfl rfl ?_
  refine ab_iload_n (i := 1) d_M_group_5 rfl rfl ?_
  refine ab_iconst (v := 1) d_M_group_6 rfl ?_
  refine ab_aload_n (i := 0) d_M_group_7 rfl rfl ?_
  refine ab_getI (ci := 11) (k := 2) d_M_group_8 v_1370 rfl (by decide) (by decide) rfl ?_
  by_cases c2 : v1 < 1
  · have h := h.1 c2
    refine ab_callS (me2 := mt_M_isIn) (as := [.int v1, .int 1, .int (I mx 2)]) (st := []) (rv := (some (.int 0))) (M2 := ((ab_up I mx 1 0), L, ab_RR, n, nc, ns)) d_M_group_11 ce_M_isIn ⟨v_1753, Or.inl v_1752⟩ (Nat.le_of_ble_eq_true rfl) (cx_M_isIn_0 v1 1 (I mx 2) hT c2) (Nat.le_refl _) (Nat.le_refl _) hc hs (fun j h9 => by cases h9) (fun _ _ => rfl) ?_
    show ab_E w (d + 2) mt_M_group 14 [.ref mx, .int v1, .int v2, .null, .null] [.int 0] ((ab_up I mx 1 0), L, ab_RR, n, nc, ns) res
    refine ab_if_ne (tgt := 23) d_M_group_14 (by decide) (fun c9 => absurd (show (0 : Int32) = 0 from by decide) c9) (fun _ => ?_)
    refine ab_aload_n (i := 0) d_M_group_17 rfl rfl ?_
    refine ab_iconst (v := 1) d_M_group_18 rfl ?_
    refine ab_callV (me2 := mt_M_fail) (b := mx) (as := [.int 1]) (st := []) (rv := (some (.int 0))) (M2 := ((ab_up (ab_up I mx 1 0) mx 1 1), L, ab_RR, n, nc, ns)) d_M_group_19 ce_M_fail v_1562 v_1564 v_66 (by decide) rfl (Nat.le_of_ble_eq_true rfl) (cx_M_fail_0 1 hT) (Nat.le_refl _) (Nat.le_refl _) hc hs (fun j h9 => by cases h9) (fun _ _ => rfl) ?_
    show ab_E w (d + 2) mt_M_group 22 [.ref mx, .int v1, .int v2, .null, .null] [.int 0] ((ab_up (ab_up I mx 1 0) mx 1 1), L, ab_RR, n, nc, ns) res
    exact ab_iret (ty := .int) d_M_group_22 rfl rfl h
  · have h := h.2 c2
    by_cases c5 : (I mx 2) < v1
    · have h := h.1 c5
      refine ab_callS (me2 := mt_M_isIn) (as := [.int v1, .int 1, .int (I mx 2)]) (st := []) (rv := (some (.int 0))) (M2 := ((ab_up I mx 1 0), L, ab_RR, n, nc, ns)) d_M_group_11 ce_M_isIn ⟨v_1753, Or.inl v_1752⟩ (Nat.le_of_ble_eq_true rfl) (cx_M_isIn_1 v1 1 (I mx 2) hT c2 c5) (Nat.le_refl _) (Nat.le_refl _) hc hs (fun j h9 => by cases h9) (fun _ _ => rfl) ?_
      show ab_E w (d + 2) mt_M_group 14 [.ref mx, .int v1, .int v2, .null, .null] [.int 0] ((ab_up I mx 1 0), L, ab_RR, n, nc, ns) res
      refine ab_if_ne (tgt := 23) d_M_group_14 (by decide) (fun c9 => absurd (show (0 : Int32) = 0 from by decide) c9) (fun _ => ?_)
      refine ab_aload_n (i := 0) d_M_group_17 rfl rfl ?_
      refine ab_iconst (v := 1) d_M_group_18 rfl ?_
      refine ab_callV (me2 := mt_M_fail) (b := mx) (as := [.int 1]) (st := []) (rv := (some (.int 0))) (M2 := ((ab_up (ab_up I mx 1 0) mx 1 1), L, ab_RR, n, nc, ns)) d_M_group_19 ce_M_fail v_1562 v_1564 v_66 (by decide) rfl (Nat.le_of_ble_eq_true rfl) (cx_M_fail_0 1 hT) (Nat.le_refl _) (Nat.le_refl _) hc hs (fun j h9 => by cases h9) (fun _ _ => rfl) ?_
      show ab_E w (d + 2) mt_M_group 22 [.ref mx, .int v1, .int v2, .null, .null] [.int 0] ((ab_up (ab_up I mx 1 0) mx 1 1), L, ab_RR, n, nc, ns) res
      exact ab_iret (ty := .int) d_M_group_22 rfl rfl h
    · have h := h.2 c5
      refine ab_callS (me2 := mt_M_isIn) (as := [.int v1, .int 1, .int (I mx 2)]) (st := []) (rv := (some (.int 1))) (M2 := ((ab_up I mx 1 0), L, ab_RR, n, nc, ns)) d_M_group_11 ce_M_isIn ⟨v_1753, Or.inl v_1752⟩ (Nat.le_of_ble_eq_true rfl) (cx_M_isIn_2 v1 1 (I mx 2) hT c2 c5) (Nat.le_refl _) (Nat.le_refl _) hc hs (fun j h9 => by cases h9) (fun _ _ => rfl) ?_
      show ab_E w (d + 2) mt_M_group 14 [.ref mx, .int v1, .int v2, .null, .null] [.int 1] ((ab_up I mx 1 0), L, ab_RR, n, nc, ns) res
      refine ab_if_ne (tgt := 23) d_M_group_14 (by decide) (fun _ => ?_) (fun c9 => absurd c9 (show ¬ (1 : Int32) = 0 from by decide))
      refine ab_iload_n (i := 2) d_M_group_23 rfl rfl ?_
      refine ab_iconst (v := (-1)) d_M_group_24 rfl ?_
      refine ab_icmp_eq (tgt := 42) d_M_group_25 (by decide) (fun c8 => ?_) (fun c8 => ?_)
      · have h := h.1 c8
        refine ab_aload_n (i := 0) d_M_group_42 rfl rfl ?_
        refine ab_iload_n (i := 1) d_M_group_43 rfl rfl ?_
        obtain ⟨r9, I10, hC, h⟩ := h
        refine ab_callV (me2 := mt_M_leftFor) (b := mx) (as := [.int v1]) (st := []) (rv := (some (.int r9))) (M2 := (I10, L, ab_RR, n, nc, ns)) d_M_group_44 ce_M_leftFor v_1815 v_1817 v_115 (by decide) rfl (Nat.le_of_ble_eq_true rfl) hC (Nat.le_refl _) (Nat.le_refl _) hc hs (fun j h9 => by cases h9) (fun _ _ => rfl) ?_
        show ab_E w (d + 2) mt_M_group 47 [.ref mx, .int v1, .int v2, .null, .null] [.int r9] (I10, L, ab_RR, n, nc, ns) res
        refine ab_istore_n (i := 3) d_M_group_47 rfl (by decide) (Or.inr rfl) ?_
        refine ab_iload_n (i := 2) d_M_group_48 rfl rfl ?_
        refine ab_iconst (v := (-1)) d_M_group_49 rfl ?_
        refine ab_icmp_ne (tgt := 74) d_M_group_50 (by decide) (fun c11 => ?_) (fun c11 => ?_)
        · have h := h.1 c11
          refine ab_aload_n (i := 0) d_M_group_74 rfl rfl ?_
          refine ab_iload_n (i := 3) d_M_group_75 rfl rfl ?_
          obtain ⟨r12, I13, hC, h⟩ := h
          refine ab_callV (me2 := mt_M_netOf) (b := mx) (as := [.int r9]) (st := []) (rv := (some (.int r12))) (M2 := (I13, L, ab_RR, n, nc, ns)) d_M_group_76 ce_M_netOf v_1643 v_1645 v_81 (by decide) rfl (Nat.le_of_ble_eq_true rfl) hC (Nat.le_refl _) (Nat.le_refl _) hc hs (fun j h9 => by cases h9) (fun _ _ => rfl) ?_
          show ab_E w (d + 2) mt_M_group 79 [.ref mx, .int v1, .int v2, .int r9, .null] [.int r12] (I13, L, ab_RR, n, nc, ns) res
          refine ab_istore (i := 4) d_M_group_79 (by decide) (Or.inr rfl) ?_
          refine ab_aload_n (i := 0) d_M_group_81 rfl rfl ?_
          refine ab_getR (ci := 11) (k := 19) (j := mx_piece) d_M_group_82 v_1387 rfl (by decide) (by decide) rfl r_mx_19 ?_
          refine ab_iload_n (i := 2) d_M_group_85 rfl rfl ?_
          have g14 := h.1; have h := h.2
          refine ab_iald d_M_group_86 rfl rfl g14 ?_
          exact ab_iret (ty := .int) d_M_group_87 rfl rfl h
        · have h := h.2 c11
          refine ab_aload_n (i := 0) d_M_group_53 rfl rfl ?_
          refine ab_getI (ci := 11) (k := 33) d_M_group_54 v_1401 rfl (by decide) (by decide) rfl ?_
          refine ab_iconst (v := (-1)) d_M_group_57 rfl ?_
          refine ab_icmp_ne (tgt := 65) d_M_group_58 (by decide) (fun c15 => ?_) (fun c15 => ?_)
          · have h := h.1 c15
            refine ab_aload_n (i := 0) d_M_group_65 rfl rfl ?_
            refine ab_aload_n (i := 0) d_M_group_66 rfl rfl ?_
            refine ab_getI (ci := 11) (k := 33) d_M_group_67 v_1401 rfl (by decide) (by decide) rfl ?_
            have g17 := h.1; have h := h.2
            refine ab_callV (me2 := mt_M_priceOf) (b := mx) (as := [.int (I10 mx 33)]) (st := []) (rv := (some (.int (I10 mx_now (51 + (I10 mx 33)).toNatClampNeg)))) (M2 := (I10, L, ab_RR, n, nc, ns)) d_M_group_70 ce_M_priceOf v_1654 v_1656 v_83 (by decide) rfl (Nat.le_of_ble_eq_true rfl) (cx_M_priceOf_0 (I10 mx 33) hT g17) (Nat.le_refl _) (Nat.le_refl _) hc hs (fun j h9 => by cases h9) (fun _ _ => rfl) ?_
            show ab_E w (d + 2) mt_M_group 73 [.ref mx, .int v1, .int v2, .int r9, .null] [.int (I10 mx_now (51 + (I10 mx 33)).toNatClampNeg)] (I10, L, ab_RR, n, nc, ns) res
            exact ab_iret (ty := .int) d_M_group_73 rfl rfl h
          · have h := h.2 c15
            refine ab_iconst (v := 0) d_M_group_61 rfl ?_
            refine ab_goto (tgt := 73) d_M_group_62 (by decide) ?_
            exact ab_iret (ty := .int) d_M_group_73 rfl rfl h
      · have h := h.2 c8
        refine ab_aload_n (i := 0) d_M_group_28 rfl rfl ?_
        refine ab_iload_n (i := 2) d_M_group_29 rfl rfl ?_
        by_cases c19 : v2 < 0
        · have h := h.1 c19
          refine ab_callV (me2 := mt_M_isSite) (b := mx) (as := [.int v2]) (st := []) (rv := (some (.int 0))) (M2 := ((ab_up I mx 1 0), L, ab_RR, n, nc, ns)) d_M_group_30 ce_M_isSite v_1783 v_1785 v_110 (by decide) rfl (Nat.le_of_ble_eq_true rfl) (cx_M_isSite_0 v2 hT c19) (Nat.le_refl _) (Nat.le_refl _) hc hs (fun j h9 => by cases h9) (fun _ _ => rfl) ?_
          show ab_E w (d + 2) mt_M_group 33 [.ref mx, .int v1, .int v2, .null, .null] [.int 0] ((ab_up I mx 1 0), L, ab_RR, n, nc, ns) res
          refine ab_if_ne (tgt := 42) d_M_group_33 (by decide) (fun c9 => absurd (show (0 : Int32) = 0 from by decide) c9) (fun _ => ?_)
          refine ab_aload_n (i := 0) d_M_group_36 rfl rfl ?_
          refine ab_iconst (v := 2) d_M_group_37 rfl ?_
          refine ab_callV (me2 := mt_M_fail) (b := mx) (as := [.int 2]) (st := []) (rv := (some (.int 0))) (M2 := ((ab_up (ab_up I mx 1 0) mx 1 2), L, ab_RR, n, nc, ns)) d_M_group_38 ce_M_fail v_1562 v_1564 v_66 (by decide) rfl (Nat.le_of_ble_eq_true rfl) (cx_M_fail_0 2 hT) (Nat.le_refl _) (Nat.le_refl _) hc hs (fun j h9 => by cases h9) (fun _ _ => rfl) ?_
          show ab_E w (d + 2) mt_M_group 41 [.ref mx, .int v1, .int v2, .null, .null] [.int 0] ((ab_up (ab_up I mx 1 0) mx 1 2), L, ab_RR, n, nc, ns) res
          exact ab_iret (ty := .int) d_M_group_41 rfl rfl h
        · have h := h.2 c19
          by_cases c22 : ((I mx 2) - 1) < v2
          · have h := h.1 c22
            refine ab_callV (me2 := mt_M_isSite) (b := mx) (as := [.int v2]) (st := []) (rv := (some (.int 0))) (M2 := ((ab_up I mx 1 0), L, ab_RR, n, nc, ns)) d_M_group_30 ce_M_isSite v_1783 v_1785 v_110 (by decide) rfl (Nat.le_of_ble_eq_true rfl) (cx_M_isSite_1 v2 hT c19 c22) (Nat.le_refl _) (Nat.le_refl _) hc hs (fun j h9 => by cases h9) (fun _ _ => rfl) ?_
            show ab_E w (d + 2) mt_M_group 33 [.ref mx, .int v1, .int v2, .null, .null] [.int 0] ((ab_up I mx 1 0), L, ab_RR, n, nc, ns) res
            refine ab_if_ne (tgt := 42) d_M_group_33 (by decide) (fun c9 => absurd (show (0 : Int32) = 0 from by decide) c9) (fun _ => ?_)
            refine ab_aload_n (i := 0) d_M_group_36 rfl rfl ?_
            refine ab_iconst (v := 2) d_M_group_37 rfl ?_
            refine ab_callV (me2 := mt_M_fail) (b := mx) (as := [.int 2]) (st := []) (rv := (some (.int 0))) (M2 := ((ab_up (ab_up I mx 1 0) mx 1 2), L, ab_RR, n, nc, ns)) d_M_group_38 ce_M_fail v_1562 v_1564 v_66 (by decide) rfl (Nat.le_of_ble_eq_true rfl) (cx_M_fail_0 2 hT) (Nat.le_refl _) (Nat.le_refl _) hc hs (fun j h9 => by cases h9) (fun _ _ => rfl) ?_
            show ab_E w (d + 2) mt_M_group 41 [.ref mx, .int v1, .int v2, .null, .null] [.int 0] ((ab_up (ab_up I mx 1 0) mx 1 2), L, ab_RR, n, nc, ns) res
            exact ab_iret (ty := .int) d_M_group_41 rfl rfl h
          · have h := h.2 c22
            refine ab_callV (me2 := mt_M_isSite) (b := mx) (as := [.int v2]) (st := []) (rv := (some (.int 1))) (M2 := ((ab_up I mx 1 0), L, ab_RR, n, nc, ns)) d_M_group_30 ce_M_isSite v_1783 v_1785 v_110 (by decide) rfl (Nat.le_of_ble_eq_true rfl) (cx_M_isSite_2 v2 hT c19 c22) (Nat.le_refl _) (Nat.le_refl _) hc hs (fun j h9 => by cases h9) (fun _ _ => rfl) ?_
            show ab_E w (d + 2) mt_M_group 33 [.ref mx, .int v1, .int v2, .null, .null] [.int 1] ((ab_up I mx 1 0), L, ab_RR, n, nc, ns) res
            refine ab_if_ne (tgt := 42) d_M_group_33 (by decide) (fun _ => ?_) (fun c9 => absurd c9 (show ¬ (1 : Int32) = 0 from by decide))
            refine ab_aload_n (i := 0) d_M_group_42 rfl rfl ?_
            refine ab_iload_n (i := 1) d_M_group_43 rfl rfl ?_
            obtain ⟨r25, I26, hC, h⟩ := h
            refine ab_callV (me2 := mt_M_leftFor) (b := mx) (as := [.int v1]) (st := []) (rv := (some (.int r25))) (M2 := (I26, L, ab_RR, n, nc, ns)) d_M_group_44 ce_M_leftFor v_1815 v_1817 v_115 (by decide) rfl (Nat.le_of_ble_eq_true rfl) hC (Nat.le_refl _) (Nat.le_refl _) hc hs (fun j h9 => by cases h9) (fun _ _ => rfl) ?_
            show ab_E w (d + 2) mt_M_group 47 [.ref mx, .int v1, .int v2, .null, .null] [.int r25] (I26, L, ab_RR, n, nc, ns) res
            refine ab_istore_n (i := 3) d_M_group_47 rfl (by decide) (Or.inr rfl) ?_
            refine ab_iload_n (i := 2) d_M_group_48 rfl rfl ?_
            refine ab_iconst (v := (-1)) d_M_group_49 rfl ?_
            refine ab_icmp_ne (tgt := 74) d_M_group_50 (by decide) (fun c27 => ?_) (fun c27 => ?_)
            · have h := h.1 c27
              refine ab_aload_n (i := 0) d_M_group_74 rfl rfl ?_
              refine ab_iload_n (i := 3) d_M_group_75 rfl rfl ?_
              obtain ⟨r28, I29, hC, h⟩ := h
              refine ab_callV (me2 := mt_M_netOf) (b := mx) (as := [.int r25]) (st := []) (rv := (some (.int r28))) (M2 := (I29, L, ab_RR, n, nc, ns)) d_M_group_76 ce_M_netOf v_1643 v_1645 v_81 (by decide) rfl (Nat.le_of_ble_eq_true rfl) hC (Nat.le_refl _) (Nat.le_refl _) hc hs (fun j h9 => by cases h9) (fun _ _ => rfl) ?_
              show ab_E w (d + 2) mt_M_group 79 [.ref mx, .int v1, .int v2, .int r25, .null] [.int r28] (I29, L, ab_RR, n, nc, ns) res
              refine ab_istore (i := 4) d_M_group_79 (by decide) (Or.inr rfl) ?_
              refine ab_aload_n (i := 0) d_M_group_81 rfl rfl ?_
              refine ab_getR (ci := 11) (k := 19) (j := mx_piece) d_M_group_82 v_1387 rfl (by decide) (by decide) rfl r_mx_19 ?_
              refine ab_iload_n (i := 2) d_M_group_85 rfl rfl ?_
              have g30 := h.1; have h := h.2
              refine ab_iald d_M_group_86 rfl rfl g30 ?_
              exact ab_iret (ty := .int) d_M_group_87 rfl rfl h
            · have h := h.2 c27
              refine ab_aload_n (i := 0) d_M_group_53 rfl rfl ?_
              refine ab_getI (ci := 11) (k := 33) d_M_group_54 v_1401 rfl (by decide) (by decide) rfl ?_
              refine ab_iconst (v := (-1)) d_M_group_57 rfl ?_
              refine ab_icmp_ne (tgt := 65) d_M_group_58 (by decide) (fun c31 => ?_) (fun c31 => ?_)
              · have h := h.1 c31
                refine ab_aload_n (i := 0) d_M_group_65 rfl rfl ?_
                refine ab_aload_n (i := 0) d_M_group_66 rfl rfl ?_
                refine ab_getI (ci := 11) (k := 33) d_M_group_67 v_1401 rfl (by decide) (by decide) rfl ?_
                have g33 := h.1; have h := h.2
                refine ab_callV (me2 := mt_M_priceOf) (b := mx) (as := [.int (I26 mx 33)]) (st := []) (rv := (some (.int (I26 mx_now (51 + (I26 mx 33)).toNatClampNeg)))) (M2 := (I26, L, ab_RR, n, nc, ns)) d_M_group_70 ce_M_priceOf v_1654 v_1656 v_83 (by decide) rfl (Nat.le_of_ble_eq_true rfl) (cx_M_priceOf_0 (I26 mx 33) hT g33) (Nat.le_refl _) (Nat.le_refl _) hc hs (fun j h9 => by cases h9) (fun _ _ => rfl) ?_
                show ab_E w (d + 2) mt_M_group 73 [.ref mx, .int v1, .int v2, .int r25, .null] [.int (I26 mx_now (51 + (I26 mx 33)).toNatClampNeg)] (I26, L, ab_RR, n, nc, ns) res
                exact ab_iret (ty := .int) d_M_group_73 rfl rfl h
              · have h := h.2 c31
                refine ab_iconst (v := 0) d_M_group_61 rfl ?_
                refine ab_goto (tgt := 73) d_M_group_62 (by decide) ?_
                exact ab_iret (ty := .int) d_M_group_73 rfl rfl h
theorem r_M_without_0 {w : ab_Wd} {d n nc ns : Nat} {I : Nat → Nat → Int32} {L : Nat → Nat → Int64} {res : ab_Re} (hT : w.1.stackTraces = false) (v1 : Int32) (v2 : Int32) (hc : nc ≤ res.2.2.2.2.2.1) (hs : ns ≤ res.2.2.2.2.2.2)
    (h : ((v1 < 0 → (res = (.inl (some (.int 0)), ((ab_up (ab_up I mx 1 0) mx 1 1), L, ab_RR, n, nc, ns)))) ∧ (¬ v1 < 0 → ((((I mx 2) - 1) < v1 → (res = (.inl (some (.int 0)), ((ab_up (ab_up I mx 1 0) mx 1 1), L, ab_RR, n, nc, ns)))) ∧ (¬ ((I mx 2) - 1) < v1 → ((v2 < 0 → (res = (.inl (some (.int 0)), ((ab_up (ab_up I mx 1 0) mx 1 1), L, ab_RR, n, nc, ns)))) ∧ (¬ v2 < 0 → ((1 < v2 → (res = (.inl (some (.int 0)), ((ab_up (ab_up I mx 1 0) mx 1 1), L, ab_RR, n, nc, ns)))) ∧ (¬ 1 < v2 → (ab_E w (d + 2) mt_M_without 38 [.ref mx, .int v1, .int v2, .int (I mx_now 1), .int 0] [] ((ab_up I mx 1 0), L, ab_RR, n, nc, ns) res)))))))))) : ab_E w (d + 2) mt_M_without 0 [.ref mx, .int v1, .int v2, .null, .null] [] (I, L, ab_RR, n, nc, ns) res := by
  refine ab_aload_n (i := 0) d_M_without_0 rfl rfl ?_
  refine ab_iconst (v := 0) d_M_without_1 rfl ?_
  refine ab_putI (ci := 11) (k := 1) d_M_without_2 v_1369 rfl (by decide) (by decide) rfl (Or.inl rfl) rfl rfl ?_
  refine ab_aload_n (i := 0) d_M_without_5 rfl rfl ?_
  refine ab_iload_n (i := 1) d_M_without_6 rfl rfl ?_
  by_cases c2 : v1 < 0
  · have h := h.1 c2
    refine ab_callV (me2 := mt_M_isSite) (b := mx) (as := [.int v1]) (st := []) (rv := (some (.int 0))) (M2 := ((ab_up I mx 1 0), L, ab_RR, n, nc, ns)) d_M_without_7 ce_M_isSite v_1783 v_1785 v_110 (by decide) rfl (Nat.le_of_ble_eq_true rfl) (cx_M_isSite_0 v1 hT c2) (Nat.le_refl _) (Nat.le_refl _) hc hs (fun j h9 => by cases h9) (fun _ _ => rfl) ?_
    show ab_E w (d + 2) mt_M_without 10 [.ref mx, .int v1, .int v2, .null, .null] [.int 0] ((ab_up I mx 1 0), L, ab_RR, n, nc, ns) res
    refine ab_if_eq (tgt := 22) d_M_without_10 (by decide) (fun _ => ?_) (fun c9 => absurd (show (0 : Int32) = 0 from by decide) c9)
    refine ab_aload_n (i := 0) d_M_without_22 rfl rfl ?_
    refine ab_iconst (v := 1) d_M_without_23 rfl ?_
    refine ab_callV (me2 := mt_M_fail) (b := mx) (as := [.int 1]) (st := []) (rv := (some (.int 0))) (M2 := ((ab_up (ab_up I mx 1 0) mx 1 1), L, ab_RR, n, nc, ns)) d_M_without_24 ce_M_fail v_1562 v_1564 v_66 (by decide) rfl (Nat.le_of_ble_eq_true rfl) (cx_M_fail_0 1 hT) (Nat.le_refl _) (Nat.le_refl _) hc hs (fun j h9 => by cases h9) (fun _ _ => rfl) ?_
    show ab_E w (d + 2) mt_M_without 27 [.ref mx, .int v1, .int v2, .null, .null] [.int 0] ((ab_up (ab_up I mx 1 0) mx 1 1), L, ab_RR, n, nc, ns) res
    exact ab_iret (ty := .int) d_M_without_27 rfl rfl h
  · have h := h.2 c2
    by_cases c5 : ((I mx 2) - 1) < v1
    · have h := h.1 c5
      refine ab_callV (me2 := mt_M_isSite) (b := mx) (as := [.int v1]) (st := []) (rv := (some (.int 0))) (M2 := ((ab_up I mx 1 0), L, ab_RR, n, nc, ns)) d_M_without_7 ce_M_isSite v_1783 v_1785 v_110 (by decide) rfl (Nat.le_of_ble_eq_true rfl) (cx_M_isSite_1 v1 hT c2 c5) (Nat.le_refl _) (Nat.le_refl _) hc hs (fun j h9 => by cases h9) (fun _ _ => rfl) ?_
      show ab_E w (d + 2) mt_M_without 10 [.ref mx, .int v1, .int v2, .null, .null] [.int 0] ((ab_up I mx 1 0), L, ab_RR, n, nc, ns) res
      refine ab_if_eq (tgt := 22) d_M_without_10 (by decide) (fun _ => ?_) (fun c9 => absurd (show (0 : Int32) = 0 from by decide) c9)
      refine ab_aload_n (i := 0) d_M_without_22 rfl rfl ?_
      refine ab_iconst (v := 1) d_M_without_23 rfl ?_
      refine ab_callV (me2 := mt_M_fail) (b := mx) (as := [.int 1]) (st := []) (rv := (some (.int 0))) (M2 := ((ab_up (ab_up I mx 1 0) mx 1 1), L, ab_RR, n, nc, ns)) d_M_without_24 ce_M_fail v_1562 v_1564 v_66 (by decide) rfl (Nat.le_of_ble_eq_true rfl) (cx_M_fail_0 1 hT) (Nat.le_refl _) (Nat.le_refl _) hc hs (fun j h9 => by cases h9) (fun _ _ => rfl) ?_
      show ab_E w (d + 2) mt_M_without 27 [.ref mx, .int v1, .int v2, .null, .null] [.int 0] ((ab_up (ab_up I mx 1 0) mx 1 1), L, ab_RR, n, nc, ns) res
      exact ab_iret (ty := .int) d_M_without_27 rfl rfl h
    · have h := h.2 c5
      refine ab_callV (me2 := mt_M_isSite) (b := mx) (as := [.int v1]) (st := []) (rv := (some (.int 1))) (M2 := ((ab_up I mx 1 0), L, ab_RR, n, nc, ns)) d_M_without_7 ce_M_isSite v_1783 v_1785 v_110 (by decide) rfl (Nat.le_of_ble_eq_true rfl) (cx_M_isSite_2 v1 hT c2 c5) (Nat.le_refl _) (Nat.le_refl _) hc hs (fun j h9 => by cases h9) (fun _ _ => rfl) ?_
      show ab_E w (d + 2) mt_M_without 10 [.ref mx, .int v1, .int v2, .null, .null] [.int 1] ((ab_up I mx 1 0), L, ab_RR, n, nc, ns) res
      refine ab_if_eq (tgt := 22) d_M_without_10 (by decide) (fun c9 => absurd c9 (show ¬ (1 : Int32) = 0 from by decide)) (fun _ => ?_)
      refine ab_iload_n (i := 2) d_M_without_13 rfl rfl ?_
      refine ab_iconst (v := 0) d_M_without_14 rfl ?_
      refine ab_iconst (v := 1) d_M_without_15 rfl ?_
      by_cases c9 : v2 < 0
      · have h := h.1 c9
        refine ab_callS (me2 := mt_M_isIn) (as := [.int v2, .int 0, .int 1]) (st := []) (rv := (some (.int 0))) (M2 := ((ab_up I mx 1 0), L, ab_RR, n, nc, ns)) d_M_without_16 ce_M_isIn ⟨v_1753, Or.inl v_1752⟩ (Nat.le_of_ble_eq_true rfl) (cx_M_isIn_0 v2 0 1 hT c9) (Nat.le_refl _) (Nat.le_refl _) hc hs (fun j h9 => by cases h9) (fun _ _ => rfl) ?_
        show ab_E w (d + 2) mt_M_without 19 [.ref mx, .int v1, .int v2, .null, .null] [.int 0] ((ab_up I mx 1 0), L, ab_RR, n, nc, ns) res
        refine ab_if_ne (tgt := 28) d_M_without_19 (by decide) (fun c9 => absurd (show (0 : Int32) = 0 from by decide) c9) (fun _ => ?_)
        refine ab_aload_n (i := 0) d_M_without_22 rfl rfl ?_
        refine ab_iconst (v := 1) d_M_without_23 rfl ?_
        refine ab_callV (me2 := mt_M_fail) (b := mx) (as := [.int 1]) (st := []) (rv := (some (.int 0))) (M2 := ((ab_up (ab_up I mx 1 0) mx 1 1), L, ab_RR, n, nc, ns)) d_M_without_24 ce_M_fail v_1562 v_1564 v_66 (by decide) rfl (Nat.le_of_ble_eq_true rfl) (cx_M_fail_0 1 hT) (Nat.le_refl _) (Nat.le_refl _) hc hs (fun j h9 => by cases h9) (fun _ _ => rfl) ?_
        show ab_E w (d + 2) mt_M_without 27 [.ref mx, .int v1, .int v2, .null, .null] [.int 0] ((ab_up (ab_up I mx 1 0) mx 1 1), L, ab_RR, n, nc, ns) res
        exact ab_iret (ty := .int) d_M_without_27 rfl rfl h
      · have h := h.2 c9
        by_cases c12 : 1 < v2
        · have h := h.1 c12
          refine ab_callS (me2 := mt_M_isIn) (as := [.int v2, .int 0, .int 1]) (st := []) (rv := (some (.int 0))) (M2 := ((ab_up I mx 1 0), L, ab_RR, n, nc, ns)) d_M_without_16 ce_M_isIn ⟨v_1753, Or.inl v_1752⟩ (Nat.le_of_ble_eq_true rfl) (cx_M_isIn_1 v2 0 1 hT c9 c12) (Nat.le_refl _) (Nat.le_refl _) hc hs (fun j h9 => by cases h9) (fun _ _ => rfl) ?_
          show ab_E w (d + 2) mt_M_without 19 [.ref mx, .int v1, .int v2, .null, .null] [.int 0] ((ab_up I mx 1 0), L, ab_RR, n, nc, ns) res
          refine ab_if_ne (tgt := 28) d_M_without_19 (by decide) (fun c9 => absurd (show (0 : Int32) = 0 from by decide) c9) (fun _ => ?_)
          refine ab_aload_n (i := 0) d_M_without_22 rfl rfl ?_
          refine ab_iconst (v := 1) d_M_without_23 rfl ?_
          refine ab_callV (me2 := mt_M_fail) (b := mx) (as := [.int 1]) (st := []) (rv := (some (.int 0))) (M2 := ((ab_up (ab_up I mx 1 0) mx 1 1), L, ab_RR, n, nc, ns)) d_M_without_24 ce_M_fail v_1562 v_1564 v_66 (by decide) rfl (Nat.le_of_ble_eq_true rfl) (cx_M_fail_0 1 hT) (Nat.le_refl _) (Nat.le_refl _) hc hs (fun j h9 => by cases h9) (fun _ _ => rfl) ?_
          show ab_E w (d + 2) mt_M_without 27 [.ref mx, .int v1, .int v2, .null, .null] [.int 0] ((ab_up (ab_up I mx 1 0) mx 1 1), L, ab_RR, n, nc, ns) res
          exact ab_iret (ty := .int) d_M_without_27 rfl rfl h
        · have h := h.2 c12
          refine ab_callS (me2 := mt_M_isIn) (as := [.int v2, .int 0, .int 1]) (st := []) (rv := (some (.int 1))) (M2 := ((ab_up I mx 1 0), L, ab_RR, n, nc, ns)) d_M_without_16 ce_M_isIn ⟨v_1753, Or.inl v_1752⟩ (Nat.le_of_ble_eq_true rfl) (cx_M_isIn_2 v2 0 1 hT c9 c12) (Nat.le_refl _) (Nat.le_refl _) hc hs (fun j h9 => by cases h9) (fun _ _ => rfl) ?_
          show ab_E w (d + 2) mt_M_without 19 [.ref mx, .int v1, .int v2, .null, .null] [.int 1] ((ab_up I mx 1 0), L, ab_RR, n, nc, ns) res
          refine ab_if_ne (tgt := 28) d_M_without_19 (by decide) (fun _ => ?_) (fun c9 => absurd c9 (show ¬ (1 : Int32) = 0 from by decide))
          refine ab_aload_n (i := 0) d_M_without_28 rfl rfl ?_
          refine ab_getR (ci := 11) (k := 4) (j := mx_now) d_M_without_29 v_1372 rfl (by decide) (by decide) rfl r_mx_4 ?_
          refine ab_iconst (v := 1) d_M_without_32 rfl ?_
          refine ab_iald d_M_without_33 rfl rfl (by unfold vp_in; decide) ?_
          refine ab_istore_n (i := 3) d_M_without_34 rfl (by decide) (Or.inr rfl) ?_
          refine ab_iconst (v := 0) d_M_without_35 rfl ?_
          refine ab_istore (i := 4) d_M_without_36 (by decide) (Or.inr rfl) ?_
          exact h
theorem r_M_without_38 {w : ab_Wd} {d n nc ns : Nat} {I : Nat → Nat → Int32} {L : Nat → Nat → Int64} {res : ab_Re} (hT : w.1.stackTraces = false) (v1 : Int32) (v2 : Int32) (v3 : Int32) (v4 : Int32) (hc : nc ≤ res.2.2.2.2.2.1) (hs : ns ≤ res.2.2.2.2.2.2)
    (h : (((I mx_now 0) ≤ v4 → (∃ (r3 : Int32) (I4 : Nat → Nat → Int32), ab_C w (d + 1) mt_M_netOf [.ref mx, .int v3] (I, L, ab_RR, n, nc, ns) (.inl (some (.int r3)), (I4, L, ab_RR, n, nc, ns)) ∧ ((¬ v2 = 0 → (res = (.inl (some (.int (((I4 mx 2) - (I4 mx 21)) - 1))), (I4, L, ab_RR, n, nc, ns)))) ∧ (v2 = 0 → (res = (.inl (some (.int (I4 mx 22))), (I4, L, ab_RR, n, nc, ns))))))) ∧ (¬ (I mx_now 0) ≤ v4 → ((vp_in (3 + v4) 399) ∧ (((I mx_now (3 + v4).toNatClampNeg) = v1 → ((vp_in (27 + v4) 399) ∧ (((I mx_now (27 + v4).toNatClampNeg) = (-1) → (ab_E w (d + 2) mt_M_without 38 [.ref mx, .int v1, .int v2, .int v3, .int (v4 + 1)] [] (I, L, ab_RR, n, nc, ns) res)) ∧ (¬ (I mx_now (27 + v4).toNatClampNeg) = (-1) → (ab_E w (d + 2) mt_M_without 38 [.ref mx, .int v1, .int v2, .int (v3 &&& (((1 : Int32) <<< (v4 &&& 31)) ^^^ (-1))), .int (v4 + 1)] [] (I, L, ab_RR, n, nc, ns) res))))) ∧ (¬ (I mx_now (3 + v4).toNatClampNeg) = v1 → ((vp_in (27 + v4) 399) ∧ (((I mx_now (27 + v4).toNatClampNeg) = v1 → (((I mx_now (3 + v4).toNatClampNeg) = (-1) → (ab_E w (d + 2) mt_M_without 38 [.ref mx, .int v1, .int v2, .int v3, .int (v4 + 1)] [] (I, L, ab_RR, n, nc, ns) res)) ∧ (¬ (I mx_now (3 + v4).toNatClampNeg) = (-1) → (ab_E w (d + 2) mt_M_without 38 [.ref mx, .int v1, .int v2, .int (v3 &&& (((1 : Int32) <<< (v4 &&& 31)) ^^^ (-1))), .int (v4 + 1)] [] (I, L, ab_RR, n, nc, ns) res)))) ∧ (¬ (I mx_now (27 + v4).toNatClampNeg) = v1 → (ab_E w (d + 2) mt_M_without 38 [.ref mx, .int v1, .int v2, .int v3, .int (v4 + 1)] [] (I, L, ab_RR, n, nc, ns) res)))))))))) : ab_E w (d + 2) mt_M_without 38 [.ref mx, .int v1, .int v2, .int v3, .int v4] [] (I, L, ab_RR, n, nc, ns) res := by
  refine ab_iload (i := 4) d_M_without_38 rfl ?_
  refine ab_aload_n (i := 0) d_M_without_40 rfl rfl ?_
  refine ab_callV (me2 := mt_M_many) (b := mx) (as := []) (st := [.int v4]) (rv := (some (.int (I mx_now 0)))) (M2 := (I, L, ab_RR, n, nc, ns)) d_M_without_41 ce_M_many v_1635 v_1637 v_79 (by decide) rfl (Nat.le_of_ble_eq_true rfl) (cx_M_many_0  hT (show (vp_in 0 399) from by unfold vp_in; decide)) (Nat.le_refl _) (Nat.le_refl _) hc hs (fun j h9 => by cases h9) (fun _ _ => rfl) ?_
  show ab_E w (d + 2) mt_M_without 44 [.ref mx, .int v1, .int v2, .int v3, .int v4] [.int (I mx_now 0), .int v4] (I, L, ab_RR, n, nc, ns) res
  refine ab_icmp_ge (tgt := 73) d_M_without_44 (by decide) (fun c2 => ?_) (fun c2 => ?_)
  · have h := h.1 c2
    refine ab_aload_n (i := 0) d_M_without_73 rfl rfl ?_
    refine ab_iload_n (i := 3) d_M_without_74 rfl rfl ?_
    obtain ⟨r3, I4, hC, h⟩ := h
    refine ab_callV (me2 := mt_M_netOf) (b := mx) (as := [.int v3]) (st := []) (rv := (some (.int r3))) (M2 := (I4, L, ab_RR, n, nc, ns)) d_M_without_75 ce_M_netOf v_1643 v_1645 v_81 (by decide) rfl (Nat.le_of_ble_eq_true rfl) hC (Nat.le_refl _) (Nat.le_refl _) hc hs (fun j h9 => by cases h9) (fun _ _ => rfl) ?_
    show ab_E w (d + 2) mt_M_without 78 [.ref mx, .int v1, .int v2, .int v3, .int v4] [.int r3] (I4, L, ab_RR, n, nc, ns) res
    refine ab_istore (i := 4) d_M_without_78 (by decide) (Or.inr rfl) ?_
    refine ab_iload_n (i := 2) d_M_without_80 rfl rfl ?_
    refine ab_if_ne (tgt := 91) d_M_without_81 (by decide) (fun c5 => ?_) (fun c5 => ?_)
    · have h := h.1 c5
      refine ab_aload_n (i := 0) d_M_without_91 rfl rfl ?_
      refine ab_callV (me2 := mt_M_pieces) (b := mx) (as := []) (st := []) (rv := (some (.int ((I4 mx 2) - (I4 mx 21))))) (M2 := (I4, L, ab_RR, n, nc, ns)) d_M_without_92 ce_M_pieces v_1671 v_1673 v_87 (by decide) rfl (Nat.le_of_ble_eq_true rfl) (cx_M_pieces_0  hT) (Nat.le_refl _) (Nat.le_refl _) hc hs (fun j h9 => by cases h9) (fun _ _ => rfl) ?_
      show ab_E w (d + 2) mt_M_without 95 [.ref mx, .int v1, .int v2, .int v3, .int r3] [.int ((I4 mx 2) - (I4 mx 21))] (I4, L, ab_RR, n, nc, ns) res
      refine ab_iconst (v := 1) d_M_without_95 rfl ?_
      refine ab_isub d_M_without_96 ?_
      exact ab_iret (ty := .int) d_M_without_97 rfl rfl h
    · have h := h.2 c5
      refine ab_aload_n (i := 0) d_M_without_84 rfl rfl ?_
      refine ab_getI (ci := 11) (k := 22) d_M_without_85 v_1390 rfl (by decide) (by decide) rfl ?_
      refine ab_goto (tgt := 97) d_M_without_88 (by decide) ?_
      exact ab_iret (ty := .int) d_M_without_97 rfl rfl h
  · have h := h.2 c2
    refine ab_aload_n (i := 0) d_M_without_47 rfl rfl ?_
    refine ab_iload (i := 4) d_M_without_48 rfl ?_
    refine ab_iload_n (i := 1) d_M_without_50 rfl rfl ?_
    have g8 := h.1; have h := h.2
    by_cases c9 : (I mx_now (3 + v4).toNatClampNeg) = v1
    · have h := h.1 c9
      have g10 := h.1; have h := h.2
      refine ab_callV (me2 := mt_M_otherEnd) (b := mx) (as := [.int v4, .int v1]) (st := []) (rv := (some (.int (I mx_now (27 + v4).toNatClampNeg)))) (M2 := (I, L, ab_RR, n, nc, ns)) d_M_without_51 ce_M_otherEnd v_1691 v_1693 v_92 (by decide) rfl (Nat.le_of_ble_eq_true rfl) (cx_M_otherEnd_2 v4 v1 hT g8 c9 g10) (Nat.le_refl _) (Nat.le_refl _) hc hs (fun j h9 => by cases h9) (fun _ _ => rfl) ?_
      show ab_E w (d + 2) mt_M_without 54 [.ref mx, .int v1, .int v2, .int v3, .int v4] [.int (I mx_now (27 + v4).toNatClampNeg)] (I, L, ab_RR, n, nc, ns) res
      refine ab_iconst (v := (-1)) d_M_without_54 rfl ?_
      refine ab_icmp_eq (tgt := 67) d_M_without_55 (by decide) (fun c11 => ?_) (fun c11 => ?_)
      · have h := h.1 c11
        refine ab_iinc (i := 4) (v := (v4 + 1)) d_M_without_67 rfl rfl (by decide) (Or.inr rfl) ?_
        refine ab_goto (tgt := 38) d_M_without_70 (by decide) ?_
        exact h
      · have h := h.2 c11
        refine ab_iload_n (i := 3) d_M_without_58 rfl rfl ?_
        refine ab_iconst (v := 1) d_M_without_59 rfl ?_
        refine ab_iload (i := 4) d_M_without_60 rfl ?_
        refine ab_ishl d_M_without_62 ?_
        refine ab_iconst (v := (-1)) d_M_without_63 rfl ?_
        refine ab_ixor d_M_without_64 ?_
        refine ab_iand d_M_without_65 ?_
        refine ab_istore_n (i := 3) d_M_without_66 rfl (by decide) (Or.inr rfl) ?_
        refine ab_iinc (i := 4) (v := (v4 + 1)) d_M_without_67 rfl rfl (by decide) (Or.inr rfl) ?_
        refine ab_goto (tgt := 38) d_M_without_70 (by decide) ?_
        exact h
    · have h := h.2 c9
      have g12 := h.1; have h := h.2
      by_cases c13 : (I mx_now (27 + v4).toNatClampNeg) = v1
      · have h := h.1 c13
        refine ab_callV (me2 := mt_M_otherEnd) (b := mx) (as := [.int v4, .int v1]) (st := []) (rv := (some (.int (I mx_now (3 + v4).toNatClampNeg)))) (M2 := (I, L, ab_RR, n, nc, ns)) d_M_without_51 ce_M_otherEnd v_1691 v_1693 v_92 (by decide) rfl (Nat.le_of_ble_eq_true rfl) (cx_M_otherEnd_1 v4 v1 hT g8 c9 g12 c13 g8) (Nat.le_refl _) (Nat.le_refl _) hc hs (fun j h9 => by cases h9) (fun _ _ => rfl) ?_
        show ab_E w (d + 2) mt_M_without 54 [.ref mx, .int v1, .int v2, .int v3, .int v4] [.int (I mx_now (3 + v4).toNatClampNeg)] (I, L, ab_RR, n, nc, ns) res
        refine ab_iconst (v := (-1)) d_M_without_54 rfl ?_
        refine ab_icmp_eq (tgt := 67) d_M_without_55 (by decide) (fun c14 => ?_) (fun c14 => ?_)
        · have h := h.1 c14
          refine ab_iinc (i := 4) (v := (v4 + 1)) d_M_without_67 rfl rfl (by decide) (Or.inr rfl) ?_
          refine ab_goto (tgt := 38) d_M_without_70 (by decide) ?_
          exact h
        · have h := h.2 c14
          refine ab_iload_n (i := 3) d_M_without_58 rfl rfl ?_
          refine ab_iconst (v := 1) d_M_without_59 rfl ?_
          refine ab_iload (i := 4) d_M_without_60 rfl ?_
          refine ab_ishl d_M_without_62 ?_
          refine ab_iconst (v := (-1)) d_M_without_63 rfl ?_
          refine ab_ixor d_M_without_64 ?_
          refine ab_iand d_M_without_65 ?_
          refine ab_istore_n (i := 3) d_M_without_66 rfl (by decide) (Or.inr rfl) ?_
          refine ab_iinc (i := 4) (v := (v4 + 1)) d_M_without_67 rfl rfl (by decide) (Or.inr rfl) ?_
          refine ab_goto (tgt := 38) d_M_without_70 (by decide) ?_
          exact h
      · have h := h.2 c13
        refine ab_callV (me2 := mt_M_otherEnd) (b := mx) (as := [.int v4, .int v1]) (st := []) (rv := (some (.int (-1)))) (M2 := (I, L, ab_RR, n, nc, ns)) d_M_without_51 ce_M_otherEnd v_1691 v_1693 v_92 (by decide) rfl (Nat.le_of_ble_eq_true rfl) (cx_M_otherEnd_0 v4 v1 hT g8 c9 g12 c13) (Nat.le_refl _) (Nat.le_refl _) hc hs (fun j h9 => by cases h9) (fun _ _ => rfl) ?_
        show ab_E w (d + 2) mt_M_without 54 [.ref mx, .int v1, .int v2, .int v3, .int v4] [.int (-1)] (I, L, ab_RR, n, nc, ns) res
        refine ab_iconst (v := (-1)) d_M_without_54 rfl ?_
        refine ab_icmp_eq (tgt := 67) d_M_without_55 (by decide) (fun _ => ?_) (fun c9 => absurd (show ((-1) : Int32) = (-1) from by decide) c9)
        refine ab_iinc (i := 4) (v := (v4 + 1)) d_M_without_67 rfl rfl (by decide) (Or.inr rfl) ?_
        refine ab_goto (tgt := 38) d_M_without_70 (by decide) ?_
        exact h
theorem r_M_determinant_0 {w : ab_Wd} {d n nc ns : Nat} {I : Nat → Nat → Int32} {L : Nat → Nat → Int64} {res : ab_Re} (hT : w.1.stackTraces = false) (v1 : Int32) (hc : nc ≤ res.2.2.2.2.2.1) (hs : ns ≤ res.2.2.2.2.2.2)
    (h : ab_E w d mt_M_determinant 8 [.ref mx, .int v1, .long 1, .null, .long 1, .null, .int 0, .null, .null, .null, .null] [] (I, L, ab_RR, n, nc, ns) res) : ab_E w d mt_M_determinant 0 [.ref mx, .int v1, .null, .null, .null, .null, .null, .null, .null, .null, .null] [] (I, L, ab_RR, n, nc, ns) res := by
  refine ab_lconst (v := 1) d_M_determinant_0 rfl ?_
  refine ab_lstore_n (i := 2) d_M_determinant_1 rfl (by decide) (Or.inr rfl) ?_
  refine ab_lconst (v := 1) d_M_determinant_2 rfl ?_
  refine ab_lstore (i := 4) d_M_determinant_3 (by decide) (Or.inr rfl) ?_
  refine ab_iconst (v := 0) d_M_determinant_5 rfl ?_
  refine ab_istore (i := 6) d_M_determinant_6 (by decide) (Or.inr rfl) ?_
  exact h
theorem r_M_determinant_8 {w : ab_Wd} {d n nc ns : Nat} {I : Nat → Nat → Int32} {L : Nat → Nat → Int64} {res : ab_Re} (hT : w.1.stackTraces = false) (v1 : Int32) (v2 : Int64) (v4 : Int64) (v6 : Int32) (hc : nc ≤ res.2.2.2.2.2.1) (hs : ns ≤ res.2.2.2.2.2.2)
    (h : ((v1 ≤ v6 → (res = (.inl (some (.long (v4 * v2))), (I, L, ab_RR, n, nc, ns)))) ∧ (¬ v1 ≤ v6 → (ab_E w d mt_M_determinant 18 [.ref mx, .int v1, .long v2, .null, .long v4, .null, .int v6, .int v6, .null, .null, .null] [] (I, L, ab_RR, n, nc, ns) res)))) : ab_E w d mt_M_determinant 8 [.ref mx, .int v1, .long v2, .null, .long v4, .null, .int v6, .null, .null, .null, .null] [] (I, L, ab_RR, n, nc, ns) res := by
  refine ab_iload (i := 6) d_M_determinant_8 rfl ?_
  refine ab_iload_n (i := 1) d_M_determinant_10 rfl rfl ?_
  refine ab_icmp_ge (tgt := 277) d_M_determinant_11 (by decide) (fun c1 => ?_) (fun c1 => ?_)
  · have h := h.1 c1
    refine ab_lload (i := 4) d_M_determinant_277 rfl ?_
    refine ab_lload_n (i := 2) d_M_determinant_279 rfl rfl ?_
    refine ab_lmul d_M_determinant_280 ?_
    exact ab_lret d_M_determinant_281 rfl h
  · have h := h.2 c1
    refine ab_iload (i := 6) d_M_determinant_14 rfl ?_
    refine ab_istore (i := 7) d_M_determinant_16 (by decide) (Or.inr rfl) ?_
    exact h
theorem r_M_determinant_18 {w : ab_Wd} {d n nc ns : Nat} {I : Nat → Nat → Int32} {L : Nat → Nat → Int64} {res : ab_Re} (hT : w.1.stackTraces = false) (v1 : Int32) (v2 : Int64) (v4 : Int64) (v6 : Int32) (v7 : Int32) (hc : nc ≤ res.2.2.2.2.2.1) (hs : ns ≤ res.2.2.2.2.2.2)
    (h : ((v1 ≤ v7 → ((¬ v7 = v1 → (ab_E w d mt_M_determinant 59 [.ref mx, .int v1, .long v2, .null, .long v4, .null, .int v6, .int v7, .int 0, .null, .null] [] (I, L, ab_RR, n, nc, ns) res)) ∧ (v7 = v1 → (res = (.inl (some (.long 0)), (I, L, ab_RR, n, nc, ns)))))) ∧ (¬ v1 ≤ v7 → ((vp_in ((10 * v7) + v6) 100) ∧ ((¬ (lg_cmp (L mx_laplace ((10 * v7) + v6).toNatClampNeg) 0) = 0 → ((¬ v7 = v1 → (ab_E w d mt_M_determinant 59 [.ref mx, .int v1, .long v2, .null, .long v4, .null, .int v6, .int v7, .int 0, .null, .null] [] (I, L, ab_RR, n, nc, ns) res)) ∧ (v7 = v1 → (res = (.inl (some (.long 0)), (I, L, ab_RR, n, nc, ns)))))) ∧ ((lg_cmp (L mx_laplace ((10 * v7) + v6).toNatClampNeg) 0) = 0 → (ab_E w d mt_M_determinant 18 [.ref mx, .int v1, .long v2, .null, .long v4, .null, .int v6, .int (v7 + 1), .null, .null, .null] [] (I, L, ab_RR, n, nc, ns) res))))))) : ab_E w d mt_M_determinant 18 [.ref mx, .int v1, .long v2, .null, .long v4, .null, .int v6, .int v7, .null, .null, .null] [] (I, L, ab_RR, n, nc, ns) res := by
  refine ab_iload (i := 7) d_M_determinant_18 rfl ?_
  refine ab_iload_n (i := 1) d_M_determinant_20 rfl rfl ?_
  refine ab_icmp_ge (tgt := 48) d_M_determinant_21 (by decide) (fun c1 => ?_) (fun c1 => ?_)
  · have h := h.1 c1
    refine ab_iload (i := 7) d_M_determinant_48 rfl ?_
    refine ab_iload_n (i := 1) d_M_determinant_50 rfl rfl ?_
    refine ab_icmp_ne (tgt := 56) d_M_determinant_51 (by decide) (fun c2 => ?_) (fun c2 => ?_)
    · have h := h.1 c2
      refine ab_iconst (v := 0) d_M_determinant_56 rfl ?_
      refine ab_istore (i := 8) d_M_determinant_57 (by decide) (Or.inr rfl) ?_
      exact h
    · have h := h.2 c2
      refine ab_lconst (v := 0) d_M_determinant_54 rfl ?_
      exact ab_lret d_M_determinant_55 rfl h
  · have h := h.2 c1
    refine ab_aload_n (i := 0) d_M_determinant_24 rfl rfl ?_
    refine ab_getR (ci := 11) (k := 36) (j := mx_laplace) d_M_determinant_25 v_1404 rfl (by decide) (by decide) rfl r_mx_36 ?_
    refine ab_bipush (v := 10) d_M_determinant_28 rfl ?_
    refine ab_iload (i := 7) d_M_determinant_30 rfl ?_
    refine ab_imul d_M_determinant_32 ?_
    refine ab_iload (i := 6) d_M_determinant_33 rfl ?_
    refine ab_iadd d_M_determinant_35 ?_
    have g3 := h.1; have h := h.2
    refine ab_lald d_M_determinant_36 rfl rfl g3 ?_
    refine ab_lconst (v := 0) d_M_determinant_37 rfl ?_
    refine ab_lcmp d_M_determinant_38 ?_
    refine ab_if_ne (tgt := 48) d_M_determinant_39 (by decide) (fun c4 => ?_) (fun c4 => ?_)
    · have h := h.1 c4
      refine ab_iload (i := 7) d_M_determinant_48 rfl ?_
      refine ab_iload_n (i := 1) d_M_determinant_50 rfl rfl ?_
      refine ab_icmp_ne (tgt := 56) d_M_determinant_51 (by decide) (fun c5 => ?_) (fun c5 => ?_)
      · have h := h.1 c5
        refine ab_iconst (v := 0) d_M_determinant_56 rfl ?_
        refine ab_istore (i := 8) d_M_determinant_57 (by decide) (Or.inr rfl) ?_
        exact h
      · have h := h.2 c5
        refine ab_lconst (v := 0) d_M_determinant_54 rfl ?_
        exact ab_lret d_M_determinant_55 rfl h
    · have h := h.2 c4
      refine ab_iinc (i := 7) (v := (v7 + 1)) d_M_determinant_42 rfl rfl (by decide) (Or.inr rfl) ?_
      refine ab_goto (tgt := 18) d_M_determinant_45 (by decide) ?_
      exact h
theorem r_M_determinant_59 {w : ab_Wd} {d n nc ns : Nat} {I : Nat → Nat → Int32} {L : Nat → Nat → Int64} {res : ab_Re} (hT : w.1.stackTraces = false) (v1 : Int32) (v2 : Int64) (v4 : Int64) (v6 : Int32) (v7 : Int32) (v8 : Int32) (hc : nc ≤ res.2.2.2.2.2.1) (hs : ns ≤ res.2.2.2.2.2.2)
    (h : ((v1 ≤ v8 → ((v7 = v6 → (ab_E w d mt_M_determinant 157 [.ref mx, .int v1, .long v2, .null, .long v4, .null, .int v6, .int v7, .int (v6 + 1), .null, .null] [] (I, L, ab_RR, n, nc, ns) res)) ∧ (¬ v7 = v6 → (ab_E w d mt_M_determinant 157 [.ref mx, .int v1, .long v2, .null, .long (-v4), .null, .int v6, .int v7, .int (v6 + 1), .null, .null] [] (I, L, ab_RR, n, nc, ns) res)))) ∧ (¬ v1 ≤ v8 → ((v7 = v6 → ((v7 = v6 → (ab_E w d mt_M_determinant 157 [.ref mx, .int v1, .long v2, .null, .long v4, .null, .int v6, .int v7, .int (v6 + 1), .null, .null] [] (I, L, ab_RR, n, nc, ns) res)) ∧ (¬ v7 = v6 → (ab_E w d mt_M_determinant 157 [.ref mx, .int v1, .long v2, .null, .long (-v4), .null, .int v6, .int v7, .int (v6 + 1), .null, .null] [] (I, L, ab_RR, n, nc, ns) res)))) ∧ (¬ v7 = v6 → ((vp_in ((10 * v6) + v8) 100) ∧ (vp_in ((10 * v7) + v8) 100) ∧ ab_E w d mt_M_determinant 59 [.ref mx, .int v1, .long v2, .null, .long v4, .null, .int v6, .int v7, .int (v8 + 1), .null, .null] [] (I, (ab_upL (ab_upL L mx_laplace ((10 * v6) + v8).toNatClampNeg (L mx_laplace ((10 * v7) + v8).toNatClampNeg)) mx_laplace ((10 * v7) + v8).toNatClampNeg (L mx_laplace ((10 * v6) + v8).toNatClampNeg)), ab_RR, n, nc, ns) res)))))) : ab_E w d mt_M_determinant 59 [.ref mx, .int v1, .long v2, .null, .long v4, .null, .int v6, .int v7, .int v8, .null, .null] [] (I, L, ab_RR, n, nc, ns) res := by
  refine ab_iload (i := 8) d_M_determinant_59 rfl ?_
  refine ab_iload_n (i := 1) d_M_determinant_61 rfl rfl ?_
  refine ab_icmp_ge (tgt := 134) d_M_determinant_62 (by decide) (fun c1 => ?_) (fun c1 => ?_)
  · have h := h.1 c1
    refine ab_iload (i := 7) d_M_determinant_134 rfl ?_
    refine ab_iload (i := 6) d_M_determinant_136 rfl ?_
    refine ab_icmp_eq (tgt := 147) d_M_determinant_138 (by decide) (fun c2 => ?_) (fun c2 => ?_)
    · have h := h.1 c2
      refine ab_lload (i := 4) d_M_determinant_147 rfl ?_
      refine ab_lstore (i := 4) d_M_determinant_149 (by decide) (Or.inr rfl) ?_
      refine ab_iload (i := 6) d_M_determinant_151 rfl ?_
      refine ab_iconst (v := 1) d_M_determinant_153 rfl ?_
      refine ab_iadd d_M_determinant_154 ?_
      refine ab_istore (i := 8) d_M_determinant_155 (by decide) (Or.inr rfl) ?_
      exact h
    · have h := h.2 c2
      refine ab_lload (i := 4) d_M_determinant_141 rfl ?_
      refine ab_lneg d_M_determinant_143 ?_
      refine ab_goto (tgt := 149) d_M_determinant_144 (by decide) ?_
      refine ab_lstore (i := 4) d_M_determinant_149 (by decide) (Or.inr rfl) ?_
      refine ab_iload (i := 6) d_M_determinant_151 rfl ?_
      refine ab_iconst (v := 1) d_M_determinant_153 rfl ?_
      refine ab_iadd d_M_determinant_154 ?_
      refine ab_istore (i := 8) d_M_determinant_155 (by decide) (Or.inr rfl) ?_
      exact h
  · have h := h.2 c1
    refine ab_iload (i := 7) d_M_determinant_65 rfl ?_
    refine ab_iload (i := 6) d_M_determinant_67 rfl ?_
    refine ab_icmp_eq (tgt := 134) d_M_determinant_69 (by decide) (fun c3 => ?_) (fun c3 => ?_)
    · have h := h.1 c3
      refine ab_iload (i := 7) d_M_determinant_134 rfl ?_
      refine ab_iload (i := 6) d_M_determinant_136 rfl ?_
      refine ab_icmp_eq (tgt := 147) d_M_determinant_138 (by decide) (fun c4 => ?_) (fun c4 => ?_)
      · have h := h.1 c4
        refine ab_lload (i := 4) d_M_determinant_147 rfl ?_
        refine ab_lstore (i := 4) d_M_determinant_149 (by decide) (Or.inr rfl) ?_
        refine ab_iload (i := 6) d_M_determinant_151 rfl ?_
        refine ab_iconst (v := 1) d_M_determinant_153 rfl ?_
        refine ab_iadd d_M_determinant_154 ?_
        refine ab_istore (i := 8) d_M_determinant_155 (by decide) (Or.inr rfl) ?_
        exact h
      · have h := h.2 c4
        refine ab_lload (i := 4) d_M_determinant_141 rfl ?_
        refine ab_lneg d_M_determinant_143 ?_
        refine ab_goto (tgt := 149) d_M_determinant_144 (by decide) ?_
        refine ab_lstore (i := 4) d_M_determinant_149 (by decide) (Or.inr rfl) ?_
        refine ab_iload (i := 6) d_M_determinant_151 rfl ?_
        refine ab_iconst (v := 1) d_M_determinant_153 rfl ?_
        refine ab_iadd d_M_determinant_154 ?_
        refine ab_istore (i := 8) d_M_determinant_155 (by decide) (Or.inr rfl) ?_
        exact h
    · have h := h.2 c3
      refine ab_aload_n (i := 0) d_M_determinant_72 rfl rfl ?_
      refine ab_getR (ci := 11) (k := 36) (j := mx_laplace) d_M_determinant_73 v_1404 rfl (by decide) (by decide) rfl r_mx_36 ?_
      refine ab_bipush (v := 10) d_M_determinant_76 rfl ?_
      refine ab_iload (i := 6) d_M_determinant_78 rfl ?_
      refine ab_imul d_M_determinant_80 ?_
      refine ab_iload (i := 8) d_M_determinant_81 rfl ?_
      refine ab_iadd d_M_determinant_83 ?_
      have g5 := h.1; have h := h.2
      refine ab_lald d_M_determinant_84 rfl rfl g5 ?_
      refine ab_lstore (i := 9) d_M_determinant_85 (by decide) (Or.inr rfl) ?_
      refine ab_aload_n (i := 0) d_M_determinant_87 rfl rfl ?_
      refine ab_getR (ci := 11) (k := 36) (j := mx_laplace) d_M_determinant_88 v_1404 rfl (by decide) (by decide) rfl r_mx_36 ?_
      refine ab_bipush (v := 10) d_M_determinant_91 rfl ?_
      refine ab_iload (i := 6) d_M_determinant_93 rfl ?_
      refine ab_imul d_M_determinant_95 ?_
      refine ab_iload (i := 8) d_M_determinant_96 rfl ?_
      refine ab_iadd d_M_determinant_98 ?_
      refine ab_aload_n (i := 0) d_M_determinant_99 rfl rfl ?_
      refine ab_getR (ci := 11) (k := 36) (j := mx_laplace) d_M_determinant_100 v_1404 rfl (by decide) (by decide) rfl r_mx_36 ?_
      refine ab_bipush (v := 10) d_M_determinant_103 rfl ?_
      refine ab_iload (i := 7) d_M_determinant_105 rfl ?_
      refine ab_imul d_M_determinant_107 ?_
      refine ab_iload (i := 8) d_M_determinant_108 rfl ?_
      refine ab_iadd d_M_determinant_110 ?_
      have g6 := h.1; have h := h.2
      refine ab_lald d_M_determinant_111 rfl rfl g6 ?_
      refine ab_last d_M_determinant_112 rfl rfl g5 ?_
      refine ab_aload_n (i := 0) d_M_determinant_113 rfl rfl ?_
      refine ab_getR (ci := 11) (k := 36) (j := mx_laplace) d_M_determinant_114 v_1404 rfl (by decide) (by decide) rfl r_mx_36 ?_
      refine ab_bipush (v := 10) d_M_determinant_117 rfl ?_
      refine ab_iload (i := 7) d_M_determinant_119 rfl ?_
      refine ab_imul d_M_determinant_121 ?_
      refine ab_iload (i := 8) d_M_determinant_122 rfl ?_
      refine ab_iadd d_M_determinant_124 ?_
      refine ab_lload (i := 9) d_M_determinant_125 rfl ?_
      refine ab_last d_M_determinant_127 rfl rfl g6 ?_
      refine ab_iinc (i := 8) (v := (v8 + 1)) d_M_determinant_128 rfl rfl (by decide) (Or.inr rfl) ?_
      refine ab_goto (tgt := 59) d_M_determinant_131 (by decide) ?_
      refine ab_drop 9 ?_
      exact h
theorem r_M_determinant_157 {w : ab_Wd} {d n nc ns : Nat} {I : Nat → Nat → Int32} {L : Nat → Nat → Int64} {res : ab_Re} (hT : w.1.stackTraces = false) (v1 : Int32) (v2 : Int64) (v4 : Int64) (v6 : Int32) (v7 : Int32) (v8 : Int32) (hc : nc ≤ res.2.2.2.2.2.1) (hs : ns ≤ res.2.2.2.2.2.2)
    (h : ((v1 ≤ v8 → ((vp_in ((10 * v6) + v6) 100) ∧ ab_E w d mt_M_determinant 8 [.ref mx, .int v1, .long (L mx_laplace ((10 * v6) + v6).toNatClampNeg), .null, .long v4, .null, .int (v6 + 1), .null, .null, .null, .null] [] (I, L, ab_RR, n, nc, ns) res)) ∧ (¬ v1 ≤ v8 → (ab_E w d mt_M_determinant 169 [.ref mx, .int v1, .long v2, .null, .long v4, .null, .int v6, .int v7, .int v8, .int (v6 + 1), .null] [] (I, L, ab_RR, n, nc, ns) res)))) : ab_E w d mt_M_determinant 157 [.ref mx, .int v1, .long v2, .null, .long v4, .null, .int v6, .int v7, .int v8, .null, .null] [] (I, L, ab_RR, n, nc, ns) res := by
  refine ab_iload (i := 8) d_M_determinant_157 rfl ?_
  refine ab_iload_n (i := 1) d_M_determinant_159 rfl rfl ?_
  refine ab_icmp_ge (tgt := 257) d_M_determinant_160 (by decide) (fun c1 => ?_) (fun c1 => ?_)
  · have h := h.1 c1
    refine ab_aload_n (i := 0) d_M_determinant_257 rfl rfl ?_
    refine ab_getR (ci := 11) (k := 36) (j := mx_laplace) d_M_determinant_258 v_1404 rfl (by decide) (by decide) rfl r_mx_36 ?_
    refine ab_bipush (v := 10) d_M_determinant_261 rfl ?_
    refine ab_iload (i := 6) d_M_determinant_263 rfl ?_
    refine ab_imul d_M_determinant_265 ?_
    refine ab_iload (i := 6) d_M_determinant_266 rfl ?_
    refine ab_iadd d_M_determinant_268 ?_
    have g2 := h.1; have h := h.2
    refine ab_lald d_M_determinant_269 rfl rfl g2 ?_
    refine ab_lstore_n (i := 2) d_M_determinant_270 rfl (by decide) (Or.inr rfl) ?_
    refine ab_iinc (i := 6) (v := (v6 + 1)) d_M_determinant_271 rfl rfl (by decide) (Or.inr rfl) ?_
    refine ab_goto (tgt := 8) d_M_determinant_274 (by decide) ?_
    refine ab_drop 7 ?_
    refine ab_drop 8 ?_
    exact h
  · have h := h.2 c1
    refine ab_iload (i := 6) d_M_determinant_163 rfl ?_
    refine ab_iconst (v := 1) d_M_determinant_165 rfl ?_
    refine ab_iadd d_M_determinant_166 ?_
    refine ab_istore (i := 9) d_M_determinant_167 (by decide) (Or.inr rfl) ?_
    exact h
theorem r_M_determinant_169 {w : ab_Wd} {d n nc ns : Nat} {I : Nat → Nat → Int32} {L : Nat → Nat → Int64} {res : ab_Re} (hT : w.1.stackTraces = false) (v1 : Int32) (v2 : Int64) (v4 : Int64) (v6 : Int32) (v7 : Int32) (v8 : Int32) (v9 : Int32) (hc : nc ≤ res.2.2.2.2.2.1) (hs : ns ≤ res.2.2.2.2.2.2)
    (h : ((v1 ≤ v9 → (ab_E w d mt_M_determinant 157 [.ref mx, .int v1, .long v2, .null, .long v4, .null, .int v6, .int v7, .int (v8 + 1), .null, .null] [] (I, L, ab_RR, n, nc, ns) res)) ∧ (¬ v1 ≤ v9 → ((vp_in ((10 * v6) + v6) 100) ∧ (vp_in ((10 * v8) + v9) 100) ∧ (vp_in ((10 * v8) + v6) 100) ∧ (vp_in ((10 * v6) + v9) 100) ∧ (¬ v2 = 0) ∧ ab_E w d mt_M_determinant 169 [.ref mx, .int v1, .long v2, .null, .long v4, .null, .int v6, .int v7, .int v8, .int (v9 + 1), .null] [] (I, (ab_upL L mx_laplace ((10 * v8) + v9).toNatClampNeg ((((L mx_laplace ((10 * v6) + v6).toNatClampNeg) * (L mx_laplace ((10 * v8) + v9).toNatClampNeg)) - ((L mx_laplace ((10 * v8) + v6).toNatClampNeg) * (L mx_laplace ((10 * v6) + v9).toNatClampNeg))) / v2)), ab_RR, n, nc, ns) res)))) : ab_E w d mt_M_determinant 169 [.ref mx, .int v1, .long v2, .null, .long v4, .null, .int v6, .int v7, .int v8, .int v9, .null] [] (I, L, ab_RR, n, nc, ns) res := by
  refine ab_iload (i := 9) d_M_determinant_169 rfl ?_
  refine ab_iload_n (i := 1) d_M_determinant_171 rfl rfl ?_
  refine ab_icmp_ge (tgt := 251) d_M_determinant_172 (by decide) (fun c1 => ?_) (fun c1 => ?_)
  · have h := h.1 c1
    refine ab_iinc (i := 8) (v := (v8 + 1)) d_M_determinant_251 rfl rfl (by decide) (Or.inr rfl) ?_
    refine ab_goto (tgt := 157) d_M_determinant_254 (by decide) ?_
    refine ab_drop 9 ?_
    exact h
  · have h := h.2 c1
    refine ab_aload_n (i := 0) d_M_determinant_175 rfl rfl ?_
    refine ab_getR (ci := 11) (k := 36) (j := mx_laplace) d_M_determinant_176 v_1404 rfl (by decide) (by decide) rfl r_mx_36 ?_
    refine ab_bipush (v := 10) d_M_determinant_179 rfl ?_
    refine ab_iload (i := 8) d_M_determinant_181 rfl ?_
    refine ab_imul d_M_determinant_183 ?_
    refine ab_iload (i := 9) d_M_determinant_184 rfl ?_
    refine ab_iadd d_M_determinant_186 ?_
    refine ab_aload_n (i := 0) d_M_determinant_187 rfl rfl ?_
    refine ab_getR (ci := 11) (k := 36) (j := mx_laplace) d_M_determinant_188 v_1404 rfl (by decide) (by decide) rfl r_mx_36 ?_
    refine ab_bipush (v := 10) d_M_determinant_191 rfl ?_
    refine ab_iload (i := 6) d_M_determinant_193 rfl ?_
    refine ab_imul d_M_determinant_195 ?_
    refine ab_iload (i := 6) d_M_determinant_196 rfl ?_
    refine ab_iadd d_M_determinant_198 ?_
    have g2 := h.1; have h := h.2
    refine ab_lald d_M_determinant_199 rfl rfl g2 ?_
    refine ab_aload_n (i := 0) d_M_determinant_200 rfl rfl ?_
    refine ab_getR (ci := 11) (k := 36) (j := mx_laplace) d_M_determinant_201 v_1404 rfl (by decide) (by decide) rfl r_mx_36 ?_
    refine ab_bipush (v := 10) d_M_determinant_204 rfl ?_
    refine ab_iload (i := 8) d_M_determinant_206 rfl ?_
    refine ab_imul d_M_determinant_208 ?_
    refine ab_iload (i := 9) d_M_determinant_209 rfl ?_
    refine ab_iadd d_M_determinant_211 ?_
    have g3 := h.1; have h := h.2
    refine ab_lald d_M_determinant_212 rfl rfl g3 ?_
    refine ab_lmul d_M_determinant_213 ?_
    refine ab_aload_n (i := 0) d_M_determinant_214 rfl rfl ?_
    refine ab_getR (ci := 11) (k := 36) (j := mx_laplace) d_M_determinant_215 v_1404 rfl (by decide) (by decide) rfl r_mx_36 ?_
    refine ab_bipush (v := 10) d_M_determinant_218 rfl ?_
    refine ab_iload (i := 8) d_M_determinant_220 rfl ?_
    refine ab_imul d_M_determinant_222 ?_
    refine ab_iload (i := 6) d_M_determinant_223 rfl ?_
    refine ab_iadd d_M_determinant_225 ?_
    have g4 := h.1; have h := h.2
    refine ab_lald d_M_determinant_226 rfl rfl g4 ?_
    refine ab_aload_n (i := 0) d_M_determinant_227 rfl rfl ?_
    refine ab_getR (ci := 11) (k := 36) (j := mx_laplace) d_M_determinant_228 v_1404 rfl (by decide) (by decide) rfl r_mx_36 ?_
    refine ab_bipush (v := 10) d_M_determinant_231 rfl ?_
    refine ab_iload (i := 6) d_M_determinant_233 rfl ?_
    refine ab_imul d_M_determinant_235 ?_
    refine ab_iload (i := 9) d_M_determinant_236 rfl ?_
    refine ab_iadd d_M_determinant_238 ?_
    have g5 := h.1; have h := h.2
    refine ab_lald d_M_determinant_239 rfl rfl g5 ?_
    refine ab_lmul d_M_determinant_240 ?_
    refine ab_lsub d_M_determinant_241 ?_
    refine ab_lload_n (i := 2) d_M_determinant_242 rfl rfl ?_
    have g6 := h.1; have h := h.2
    refine ab_ldiv d_M_determinant_243 g6 ?_
    refine ab_last d_M_determinant_244 rfl rfl g3 ?_
    refine ab_iinc (i := 9) (v := (v9 + 1)) d_M_determinant_245 rfl rfl (by decide) (Or.inr rfl) ?_
    refine ab_goto (tgt := 169) d_M_determinant_248 (by decide) ?_
    exact h
theorem cx_M_lays_0 {w : ab_Wd} {d n nc ns : Nat} {I : Nat → Nat → Int32} {L : Nat → Nat → Int64} (v1 : Int32) (v2 : Int32) (v3 : Int64) (hT : w.1.stackTraces = false) (e1 : v1 = (-1)) : ab_C w d mt_M_lays [.ref mx, .int v1, .int v2, .long v3] (I, L, ab_RR, n, nc, ns) (.inl none, (I, L, ab_RR, n, nc, ns)) := by
  refine ab_C_of (by decide) rfl (Nat.le_of_ble_eq_true rfl) hT ?_
  have hc := Nat.le_refl nc
  have hs := Nat.le_refl ns
  refine ab_iload_n (i := 1) d_M_lays_0 rfl rfl ?_
  refine ab_iconst (v := (-1)) d_M_lays_1 rfl ?_
  refine ab_icmp_eq (tgt := 25) d_M_lays_2 (by decide) (fun _ => ?_) (fun c9 => absurd e1 c9)
  exact ab_vret d_M_lays_25 rfl rfl
theorem cx_M_lays_1 {w : ab_Wd} {d n nc ns : Nat} {I : Nat → Nat → Int32} {L : Nat → Nat → Int64} (v1 : Int32) (v2 : Int32) (v3 : Int64) (hT : w.1.stackTraces = false) (e1 : ¬ v1 = (-1)) (e2 : v2 = (-1)) : ab_C w d mt_M_lays [.ref mx, .int v1, .int v2, .long v3] (I, L, ab_RR, n, nc, ns) (.inl none, (I, L, ab_RR, n, nc, ns)) := by
  refine ab_C_of (by decide) rfl (Nat.le_of_ble_eq_true rfl) hT ?_
  have hc := Nat.le_refl nc
  have hs := Nat.le_refl ns
  refine ab_iload_n (i := 1) d_M_lays_0 rfl rfl ?_
  refine ab_iconst (v := (-1)) d_M_lays_1 rfl ?_
  refine ab_icmp_eq (tgt := 25) d_M_lays_2 (by decide) (fun c9 => absurd c9 e1) (fun _ => ?_)
  refine ab_iload_n (i := 2) d_M_lays_5 rfl rfl ?_
  refine ab_iconst (v := (-1)) d_M_lays_6 rfl ?_
  refine ab_icmp_eq (tgt := 25) d_M_lays_7 (by decide) (fun _ => ?_) (fun c9 => absurd e2 c9)
  exact ab_vret d_M_lays_25 rfl rfl
theorem cx_M_lays_2 {w : ab_Wd} {d n nc ns : Nat} {I : Nat → Nat → Int32} {L : Nat → Nat → Int64} (v1 : Int32) (v2 : Int32) (v3 : Int64) (hT : w.1.stackTraces = false) (e1 : ¬ v1 = (-1)) (e2 : ¬ v2 = (-1)) (e3 : (vp_in ((10 * v1) + v2) 100)) (e4 : (vp_in ((10 * v1) + v2) 100)) : ab_C w d mt_M_lays [.ref mx, .int v1, .int v2, .long v3] (I, L, ab_RR, n, nc, ns) (.inl none, (I, (ab_upL L mx_laplace ((10 * v1) + v2).toNatClampNeg ((L mx_laplace ((10 * v1) + v2).toNatClampNeg) + v3)), ab_RR, n, nc, ns)) := by
  refine ab_C_of (by decide) rfl (Nat.le_of_ble_eq_true rfl) hT ?_
  have hc := Nat.le_refl nc
  have hs := Nat.le_refl ns
  refine ab_iload_n (i := 1) d_M_lays_0 rfl rfl ?_
  refine ab_iconst (v := (-1)) d_M_lays_1 rfl ?_
  refine ab_icmp_eq (tgt := 25) d_M_lays_2 (by decide) (fun c9 => absurd c9 e1) (fun _ => ?_)
  refine ab_iload_n (i := 2) d_M_lays_5 rfl rfl ?_
  refine ab_iconst (v := (-1)) d_M_lays_6 rfl ?_
  refine ab_icmp_eq (tgt := 25) d_M_lays_7 (by decide) (fun c9 => absurd c9 e2) (fun _ => ?_)
  refine ab_aload_n (i := 0) d_M_lays_10 rfl rfl ?_
  refine ab_getR (ci := 11) (k := 36) (j := mx_laplace) d_M_lays_11 v_1404 rfl (by decide) (by decide) rfl r_mx_36 ?_
  refine ab_bipush (v := 10) d_M_lays_14 rfl ?_
  refine ab_iload_n (i := 1) d_M_lays_16 rfl rfl ?_
  refine ab_imul d_M_lays_17 ?_
  refine ab_iload_n (i := 2) d_M_lays_18 rfl rfl ?_
  refine ab_iadd d_M_lays_19 ?_
  refine ab_dup2 d_M_lays_20 ?_
  refine ab_lald d_M_lays_21 rfl rfl e3 ?_
  refine ab_lload_n (i := 3) d_M_lays_22 rfl rfl ?_
  refine ab_ladd d_M_lays_23 ?_
  refine ab_last d_M_lays_24 rfl rfl e4 ?_
  exact ab_vret d_M_lays_25 rfl rfl
