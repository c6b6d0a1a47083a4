theorem r_M_all_0 {w : ab_Wd} {d n nc ns : Nat} {I : Nat → Nat → Int32} {L : Nat → Nat → Int64} {res : ab_Re} (hT : w.1.stackTraces = false) (v1 : Int32) (v2 : Int32) (hc : nc ≤ res.2.2.2.2.2.1) (hs : ns ≤ res.2.2.2.2.2.2)
    (h : ((v1 < 0 → (res = (.inl (some (.int (-1))), ((ab_up (ab_up I mx 1 0) mx_status 1 ((I mx_status 1) + 1)), L, ab_RR, n, nc, ns)))) ∧ (¬ v1 < 0 → ((3 < v1 → (res = (.inl (some (.int (-1))), ((ab_up (ab_up I mx 1 0) mx_status 1 ((I mx_status 1) + 1)), L, ab_RR, n, nc, ns)))) ∧ (¬ 3 < v1 → ((v2 < (-50) → (res = (.inl (some (.int (-1))), ((ab_up (ab_up I mx 1 0) mx_status 1 ((I mx_status 1) + 1)), L, ab_RR, n, nc, ns)))) ∧ (¬ v2 < (-50) → ((100 < v2 → (res = (.inl (some (.int (-1))), ((ab_up (ab_up I mx 1 0) mx_status 1 ((I mx_status 1) + 1)), L, ab_RR, n, nc, ns)))) ∧ (¬ 100 < v2 → (∃ (r15 : Int32), ab_C w d mt_M_hasCables [.ref mx, .int v1] ((ab_up I mx 1 0), L, ab_RR, n, nc, ns) (.inl (some (.int r15)), ((ab_up I mx 1 0), L, ab_RR, n, nc, ns)) ∧ ((¬ r15 = 0 → (∃ (I18 : Nat → Nat → Int32), ab_C w d mt_M_keep [.ref mx] ((ab_up I mx 1 0), L, ab_RR, n, nc, ns) (.inl none, (I18, L, ab_RR, n, nc, ns)) ∧ ab_E w (d + 1) mt_M_all 45 [.ref mx, .int v1, .int v2, .int 0] [] (I18, L, ab_RR, n, nc, ns) res)) ∧ (r15 = 0 → (res = (.inl (some (.int (-1))), ((ab_up (ab_up I mx 1 0) mx_status 1 ((I mx_status 1) + 1)), L, ab_RR, n, nc, ns))))))))))))))) : ab_E w (d + 1) mt_M_all 0 [.ref mx, .int v1, .int v2, .null] [] (I, L, ab_RR, n, nc, ns) res := by
  refine ab_aload_n (i := 0) d_M_all_0 rfl rfl ?_
  refine ab_iconst (v := 0) d_M_all_1 rfl ?_
  refine ab_putI (ci := 11) (k := 1) d_M_all_2 v_1369 rfl (by decide) (by decide) rfl (Or.inl rfl) rfl rfl ?_
  refine ab_iload_n (i := 1) d_M_all_5 rfl rfl ?_
  refine ab_iconst (v := 0) d_M_all_6 rfl ?_
  refine ab_iconst (v := 3) d_M_all_7 rfl ?_
  by_cases c2 : v1 < 0
  · have h := h.1 c2
    refine ab_callS (me2 := mt_M_isIn) (as := [.int v1, .int 0, .int 3]) (st := []) (rv := (some (.int 0))) (M2 := ((ab_up I mx 1 0), L, ab_RR, n, nc, ns)) d_M_all_8 ce_M_isIn ⟨v_1753, Or.inl v_1752⟩ (Nat.le_of_ble_eq_true rfl) (cx_M_isIn_0 v1 0 3 hT c2) (Nat.le_refl _) (Nat.le_refl _) hc hs (fun j h9 => by cases h9) (fun _ _ => rfl) ?_
    show ab_E w (d + 1) mt_M_all 11 [.ref mx, .int v1, .int v2, .null] [.int 0] ((ab_up I mx 1 0), L, ab_RR, n, nc, ns) res
    refine ab_if_eq (tgt := 33) d_M_all_11 (by decide) (fun _ => ?_) (fun c9 => absurd (show (0 : Int32) = 0 from by decide) c9)
    refine ab_aload_n (i := 0) d_M_all_33 rfl rfl ?_
    refine ab_iconst (v := 1) d_M_all_34 rfl ?_
    refine ab_callV (me2 := mt_M_refuse) (b := mx) (as := [.int 1]) (st := []) (rv := (some (.int (-1)))) (M2 := ((ab_up (ab_up I mx 1 0) mx_status 1 ((I mx_status 1) + 1)), L, ab_RR, n, nc, ns)) d_M_all_35 ce_M_refuse v_1900 v_1902 v_128 (by decide) rfl (Nat.le_of_ble_eq_true rfl) (cx_M_refuse_0 1 hT (show (vp_in 1 3) from by unfold vp_in; decide) (show (vp_in 1 3) from by unfold vp_in; decide)) (Nat.le_refl _) (Nat.le_refl _) hc hs (fun j h9 => by cases h9) (fun _ _ => rfl) ?_
    show ab_E w (d + 1) mt_M_all 38 [.ref mx, .int v1, .int v2, .null] [.int (-1)] ((ab_up (ab_up I mx 1 0) mx_status 1 ((I mx_status 1) + 1)), L, ab_RR, n, nc, ns) res
    exact ab_iret (ty := .int) d_M_all_38 rfl rfl h
  · have h := h.2 c2
    by_cases c5 : 3 < v1
    · have h := h.1 c5
      refine ab_callS (me2 := mt_M_isIn) (as := [.int v1, .int 0, .int 3]) (st := []) (rv := (some (.int 0))) (M2 := ((ab_up I mx 1 0), L, ab_RR, n, nc, ns)) d_M_all_8 ce_M_isIn ⟨v_1753, Or.inl v_1752⟩ (Nat.le_of_ble_eq_true rfl) (cx_M_isIn_1 v1 0 3 hT c2 c5) (Nat.le_refl _) (Nat.le_refl _) hc hs (fun j h9 => by cases h9) (fun _ _ => rfl) ?_
      show ab_E w (d + 1) mt_M_all 11 [.ref mx, .int v1, .int v2, .null] [.int 0] ((ab_up I mx 1 0), L, ab_RR, n, nc, ns) res
      refine ab_if_eq (tgt := 33) d_M_all_11 (by decide) (fun _ => ?_) (fun c9 => absurd (show (0 : Int32) = 0 from by decide) c9)
      refine ab_aload_n (i := 0) d_M_all_33 rfl rfl ?_
      refine ab_iconst (v := 1) d_M_all_34 rfl ?_
      refine ab_callV (me2 := mt_M_refuse) (b := mx) (as := [.int 1]) (st := []) (rv := (some (.int (-1)))) (M2 := ((ab_up (ab_up I mx 1 0) mx_status 1 ((I mx_status 1) + 1)), L, ab_RR, n, nc, ns)) d_M_all_35 ce_M_refuse v_1900 v_1902 v_128 (by decide) rfl (Nat.le_of_ble_eq_true rfl) (cx_M_refuse_0 1 hT (show (vp_in 1 3) from by unfold vp_in; decide) (show (vp_in 1 3) from by unfold vp_in; decide)) (Nat.le_refl _) (Nat.le_refl _) hc hs (fun j h9 => by cases h9) (fun _ _ => rfl) ?_
      show ab_E w (d + 1) mt_M_all 38 [.ref mx, .int v1, .int v2, .null] [.int (-1)] ((ab_up (ab_up I mx 1 0) mx_status 1 ((I mx_status 1) + 1)), L, ab_RR, n, nc, ns) res
      exact ab_iret (ty := .int) d_M_all_38 rfl rfl h
    · have h := h.2 c5
      refine ab_callS (me2 := mt_M_isIn) (as := [.int v1, .int 0, .int 3]) (st := []) (rv := (some (.int 1))) (M2 := ((ab_up I mx 1 0), L, ab_RR, n, nc, ns)) d_M_all_8 ce_M_isIn ⟨v_1753, Or.inl v_1752⟩ (Nat.le_of_ble_eq_true rfl) (cx_M_isIn_2 v1 0 3 hT c2 c5) (Nat.le_refl _) (Nat.le_refl _) hc hs (fun j h9 => by cases h9) (fun _ _ => rfl) ?_
      show ab_E w (d + 1) mt_M_all 11 [.ref mx, .int v1, .int v2, .null] [.int 1] ((ab_up I mx 1 0), L, ab_RR, n, nc, ns) res
      refine ab_if_eq (tgt := 33) d_M_all_11 (by decide) (fun c9 => absurd c9 (show ¬ (1 : Int32) = 0 from by decide)) (fun _ => ?_)
      refine ab_iload_n (i := 2) d_M_all_14 rfl rfl ?_
      refine ab_bipush (v := (-50)) d_M_all_15 rfl ?_
      refine ab_bipush (v := 100) d_M_all_17 rfl ?_
      by_cases c9 : v2 < (-50)
      · have h := h.1 c9
        refine ab_callS (me2 := mt_M_isIn) (as := [.int v2, .int (-50), .int 100]) (st := []) (rv := (some (.int 0))) (M2 := ((ab_up I mx 1 0), L, ab_RR, n, nc, ns)) d_M_all_19 ce_M_isIn ⟨v_1753, Or.inl v_1752⟩ (Nat.le_of_ble_eq_true rfl) (cx_M_isIn_0 v2 (-50) 100 hT c9) (Nat.le_refl _) (Nat.le_refl _) hc hs (fun j h9 => by cases h9) (fun _ _ => rfl) ?_
        show ab_E w (d + 1) mt_M_all 22 [.ref mx, .int v1, .int v2, .null] [.int 0] ((ab_up I mx 1 0), L, ab_RR, n, nc, ns) res
        refine ab_if_eq (tgt := 33) d_M_all_22 (by decide) (fun _ => ?_) (fun c9 => absurd (show (0 : Int32) = 0 from by decide) c9)
        refine ab_aload_n (i := 0) d_M_all_33 rfl rfl ?_
        refine ab_iconst (v := 1) d_M_all_34 rfl ?_
        refine ab_callV (me2 := mt_M_refuse) (b := mx) (as := [.int 1]) (st := []) (rv := (some (.int (-1)))) (M2 := ((ab_up (ab_up I mx 1 0) mx_status 1 ((I mx_status 1) + 1)), L, ab_RR, n, nc, ns)) d_M_all_35 ce_M_refuse v_1900 v_1902 v_128 (by decide) rfl (Nat.le_of_ble_eq_true rfl) (cx_M_refuse_0 1 hT (show (vp_in 1 3) from by unfold vp_in; decide) (show (vp_in 1 3) from by unfold vp_in; decide)) (Nat.le_refl _) (Nat.le_refl _) hc hs (fun j h9 => by cases h9) (fun _ _ => rfl) ?_
        show ab_E w (d + 1) mt_M_all 38 [.ref mx, .int v1, .int v2, .null] [.int (-1)] ((ab_up (ab_up I mx 1 0) mx_status 1 ((I mx_status 1) + 1)), L, ab_RR, n, nc, ns) res
        exact ab_iret (ty := .int) d_M_all_38 rfl rfl h
      · have h := h.2 c9
        by_cases c12 : 100 < v2
        · have h := h.1 c12
          refine ab_callS (me2 := mt_M_isIn) (as := [.int v2, .int (-50), .int 100]) (st := []) (rv := (some (.int 0))) (M2 := ((ab_up I mx 1 0), L, ab_RR, n, nc, ns)) d_M_all_19 ce_M_isIn ⟨v_1753, Or.inl v_1752⟩ (Nat.le_of_ble_eq_true rfl) (cx_M_isIn_1 v2 (-50) 100 hT c9 c12) (Nat.le_refl _) (Nat.le_refl _) hc hs (fun j h9 => by cases h9) (fun _ _ => rfl) ?_
          show ab_E w (d + 1) mt_M_all 22 [.ref mx, .int v1, .int v2, .null] [.int 0] ((ab_up I mx 1 0), L, ab_RR, n, nc, ns) res
          refine ab_if_eq (tgt := 33) d_M_all_22 (by decide) (fun _ => ?_) (fun c9 => absurd (show (0 : Int32) = 0 from by decide) c9)
          refine ab_aload_n (i := 0) d_M_all_33 rfl rfl ?_
          refine ab_iconst (v := 1) d_M_all_34 rfl ?_
          refine ab_callV (me2 := mt_M_refuse) (b := mx) (as := [.int 1]) (st := []) (rv := (some (.int (-1)))) (M2 := ((ab_up (ab_up I mx 1 0) mx_status 1 ((I mx_status 1) + 1)), L, ab_RR, n, nc, ns)) d_M_all_35 ce_M_refuse v_1900 v_1902 v_128 (by decide) rfl (Nat.le_of_ble_eq_true rfl) (cx_M_refuse_0 1 hT (show (vp_in 1 3) from by unfold vp_in; decide) (show (vp_in 1 3) from by unfold vp_in; decide)) (Nat.le_refl _) (Nat.le_refl _) hc hs (fun j h9 => by cases h9) (fun _ _ => rfl) ?_
          show ab_E w (d + 1) mt_M_all 38 [.ref mx, .int v1, .int v2, .null] [.int (-1)] ((ab_up (ab_up I mx 1 0) mx_status 1 ((I mx_status 1) + 1)), L, ab_RR, n, nc, ns) res
          exact ab_iret (ty := .int) d_M_all_38 rfl rfl h
        · have h := h.2 c12
          refine ab_callS (me2 := mt_M_isIn) (as := [.int v2, .int (-50), .int 100]) (st := []) (rv := (some (.int 1))) (M2 := ((ab_up I mx 1 0), L, ab_RR, n, nc, ns)) d_M_all_19 ce_M_isIn ⟨v_1753, Or.inl v_1752⟩ (Nat.le_of_ble_eq_true rfl) (cx_M_isIn_2 v2 (-50) 100 hT c9 c12) (Nat.le_refl _) (Nat.le_refl _) hc hs (fun j h9 => by cases h9) (fun _ _ => rfl) ?_
          show ab_E w (d + 1) mt_M_all 22 [.ref mx, .int v1, .int v2, .null] [.int 1] ((ab_up I mx 1 0), L, ab_RR, n, nc, ns) res
          refine ab_if_eq (tgt := 33) d_M_all_22 (by decide) (fun c9 => absurd c9 (show ¬ (1 : Int32) = 0 from by decide)) (fun _ => ?_)
          refine ab_aload_n (i := 0) d_M_all_25 rfl rfl ?_
          refine ab_iload_n (i := 1) d_M_all_26 rfl rfl ?_
          obtain ⟨r15, hC, h⟩ := h
          refine ab_callV (me2 := mt_M_hasCables) (b := mx) (as := [.int v1]) (st := []) (rv := (some (.int r15))) (M2 := ((ab_up I mx 1 0), L, ab_RR, n, nc, ns)) d_M_all_27 ce_M_hasCables v_1924 v_1926 v_132 (by decide) rfl (Nat.le_of_ble_eq_true rfl) hC (Nat.le_refl _) (Nat.le_refl _) hc hs (fun j h9 => by cases h9) (fun _ _ => rfl) ?_
          show ab_E w (d + 1) mt_M_all 30 [.ref mx, .int v1, .int v2, .null] [.int r15] ((ab_up I mx 1 0), L, ab_RR, n, nc, ns) res
          refine ab_if_ne (tgt := 39) d_M_all_30 (by decide) (fun c16 => ?_) (fun c16 => ?_)
          · have h := h.1 c16
            refine ab_aload_n (i := 0) d_M_all_39 rfl rfl ?_
            obtain ⟨I18, hC, h⟩ := h
            refine ab_callV (me2 := mt_M_keep) (b := mx) (as := []) (st := []) (rv := none) (M2 := (I18, L, ab_RR, n, nc, ns)) d_M_all_40 ce_M_keep v_1904 v_1906 v_129 (by decide) rfl (Nat.le_of_ble_eq_true rfl) hC (Nat.le_refl _) (Nat.le_refl _) hc hs (fun j h9 => by cases h9) (fun _ _ => rfl) ?_
            show ab_E w (d + 1) mt_M_all 43 [.ref mx, .int v1, .int v2, .null] [] (I18, L, ab_RR, n, nc, ns) res
            refine ab_iconst (v := 0) d_M_all_43 rfl ?_
            refine ab_istore_n (i := 3) d_M_all_44 rfl (by decide) (Or.inr rfl) ?_
            exact h
          · have h := h.2 c16
            refine ab_aload_n (i := 0) d_M_all_33 rfl rfl ?_
            refine ab_iconst (v := 1) d_M_all_34 rfl ?_
            refine ab_callV (me2 := mt_M_refuse) (b := mx) (as := [.int 1]) (st := []) (rv := (some (.int (-1)))) (M2 := ((ab_up (ab_up I mx 1 0) mx_status 1 ((I mx_status 1) + 1)), L, ab_RR, n, nc, ns)) d_M_all_35 ce_M_refuse v_1900 v_1902 v_128 (by decide) rfl (Nat.le_of_ble_eq_true rfl) (cx_M_refuse_0 1 hT (show (vp_in 1 3) from by unfold vp_in; decide) (show (vp_in 1 3) from by unfold vp_in; decide)) (Nat.le_refl _) (Nat.le_refl _) hc hs (fun j h9 => by cases h9) (fun _ _ => rfl) ?_
            show ab_E w (d + 1) mt_M_all 38 [.ref mx, .int v1, .int v2, .null] [.int (-1)] ((ab_up (ab_up I mx 1 0) mx_status 1 ((I mx_status 1) + 1)), L, ab_RR, n, nc, ns) res
            exact ab_iret (ty := .int) d_M_all_38 rfl rfl h
theorem r_M_all_45 {w : ab_Wd} {d n nc ns : Nat} {I : Nat → Nat → Int32} {L : Nat → Nat → Int64} {res : ab_Re} (hT : w.1.stackTraces = false) (v1 : Int32) (v2 : Int32) (v3 : Int32) (hc : nc ≤ res.2.2.2.2.2.1) (hs : ns ≤ res.2.2.2.2.2.2)
    (h : (((I mx_now 0) ≤ v3 → (∃ (r3 : Int32) (I4 : Nat → Nat → Int32), ab_C w d mt_M_totalNow [.ref mx] (I, L, ab_RR, n, nc, ns) (.inl (some (.int r3)), (I4, L, ab_RR, n, nc, ns)) ∧ res = (.inl (some (.int r3)), (I4, L, ab_RR, n, nc, ns)))) ∧ (¬ (I mx_now 0) ≤ v3 → ((vp_in (75 + v3) 399) ∧ ((¬ (I mx_now (75 + v3).toNatClampNeg) = v1 → (ab_E w (d + 1) mt_M_all 45 [.ref mx, .int v1, .int v2, .int (v3 + 1)] [] (I, L, ab_RR, n, nc, ns) res)) ∧ ((I mx_now (75 + v3).toNatClampNeg) = v1 → ((vp_in (51 + v3) 399) ∧ ∃ (I10 : Nat → Nat → Int32), ab_C w d mt_M_pricesNow [.ref mx, .int v3, .int (ab_max32 1 (ab_min32 999 (((I mx_now (51 + v3).toNatClampNeg) * (100 + v2)) / 100)))] (I, L, ab_RR, n, nc, ns) (.inl none, (I10, L, ab_RR, n, nc, ns)) ∧ ab_E w (d + 1) mt_M_all 45 [.ref mx, .int v1, .int v2, .int (v3 + 1)] [] (I10, L, ab_RR, n, nc, ns) res))))))) : ab_E w (d + 1) mt_M_all 45 [.ref mx, .int v1, .int v2, .int v3] [] (I, L, ab_RR, n, nc, ns) res := by
  refine ab_iload_n (i := 3) d_M_all_45 rfl rfl ?_
  refine ab_aload_n (i := 0) d_M_all_46 rfl rfl ?_
  refine ab_callV (me2 := mt_M_many) (b := mx) (as := []) (st := [.int v3]) (rv := (some (.int (I mx_now 0)))) (M2 := (I, L, ab_RR, n, nc, ns)) d_M_all_47 ce_M_many v_1635 v_1637 v_79 (by decide) rfl (Nat.le_of_ble_eq_true rfl) (cx_M_many_0  hT (show (vp_in 0 399) from by unfold vp_in; decide)) (Nat.le_refl _) (Nat.le_refl _) hc hs (fun j h9 => by cases h9) (fun _ _ => rfl) ?_
  show ab_E w (d + 1) mt_M_all 50 [.ref mx, .int v1, .int v2, .int v3] [.int (I mx_now 0), .int v3] (I, L, ab_RR, n, nc, ns) res
  refine ab_icmp_ge (tgt := 100) d_M_all_50 (by decide) (fun c2 => ?_) (fun c2 => ?_)
  · have h := h.1 c2
    refine ab_aload_n (i := 0) d_M_all_100 rfl rfl ?_
    obtain ⟨r3, I4, hC, h⟩ := h
    refine ab_callV (me2 := mt_M_totalNow) (b := mx) (as := []) (st := []) (rv := (some (.int r3))) (M2 := (I4, L, ab_RR, n, nc, ns)) d_M_all_101 ce_M_totalNow v_1663 v_1665 v_85 (by decide) rfl (Nat.le_of_ble_eq_true rfl) hC (Nat.le_refl _) (Nat.le_refl _) hc hs (fun j h9 => by cases h9) (fun _ _ => rfl) ?_
    show ab_E w (d + 1) mt_M_all 104 [.ref mx, .int v1, .int v2, .int v3] [.int r3] (I4, L, ab_RR, n, nc, ns) res
    exact ab_iret (ty := .int) d_M_all_104 rfl rfl h
  · have h := h.2 c2
    refine ab_aload_n (i := 0) d_M_all_53 rfl rfl ?_
    refine ab_getR (ci := 11) (k := 4) (j := mx_now) d_M_all_54 v_1372 rfl (by decide) (by decide) rfl r_mx_4 ?_
    refine ab_bipush (v := 75) d_M_all_57 rfl ?_
    refine ab_iload_n (i := 3) d_M_all_59 rfl rfl ?_
    refine ab_iadd d_M_all_60 ?_
    have g5 := h.1; have h := h.2
    refine ab_iald d_M_all_61 rfl rfl g5 ?_
    refine ab_iload_n (i := 1) d_M_all_62 rfl rfl ?_
    refine ab_icmp_ne (tgt := 94) d_M_all_63 (by decide) (fun c6 => ?_) (fun c6 => ?_)
    · have h := h.1 c6
      refine ab_iinc (i := 3) (v := (v3 + 1)) d_M_all_94 rfl rfl (by decide) (Or.inr rfl) ?_
      refine ab_goto (tgt := 45) d_M_all_97 (by decide) ?_
      exact h
    · have h := h.2 c6
      refine ab_aload_n (i := 0) d_M_all_66 rfl rfl ?_
      refine ab_iload_n (i := 3) d_M_all_67 rfl rfl ?_
      refine ab_iconst (v := 1) d_M_all_68 rfl ?_
      refine ab_sipush (v := 999) d_M_all_69 rfl ?_
      refine ab_aload_n (i := 0) d_M_all_72 rfl rfl ?_
      refine ab_iload_n (i := 3) d_M_all_73 rfl rfl ?_
      have g8 := h.1; have h := h.2
      refine ab_callV (me2 := mt_M_priceOf) (b := mx) (as := [.int v3]) (st := [.int 999, .int 1, .int v3, .ref mx]) (rv := (some (.int (I mx_now (51 + v3).toNatClampNeg)))) (M2 := (I, L, ab_RR, n, nc, ns)) d_M_all_74 ce_M_priceOf v_1654 v_1656 v_83 (by decide) rfl (Nat.le_of_ble_eq_true rfl) (cx_M_priceOf_0 v3 hT g8) (Nat.le_refl _) (Nat.le_refl _) hc hs (fun j h9 => by cases h9) (fun _ _ => rfl) ?_
      show ab_E w (d + 1) mt_M_all 77 [.ref mx, .int v1, .int v2, .int v3] [.int (I mx_now (51 + v3).toNatClampNeg), .int 999, .int 1, .int v3, .ref mx] (I, L, ab_RR, n, nc, ns) res
      refine ab_bipush (v := 100) d_M_all_77 rfl ?_
      refine ab_iload_n (i := 2) d_M_all_79 rfl rfl ?_
      refine ab_iadd d_M_all_80 ?_
      refine ab_imul d_M_all_81 ?_
      refine ab_bipush (v := 100) d_M_all_82 rfl ?_
      refine ab_idiv d_M_all_84 (by decide) ?_
      refine ab_min d_M_all_85 v_1581 v_448 v_150 v_449 (Nat.succ_le_succ (Nat.zero_le _)) (Nat.le_of_ble_eq_true rfl) hc hs ?_
      refine ab_max d_M_all_88 v_1662 v_451 v_150 v_452 (Nat.succ_le_succ (Nat.zero_le _)) (Nat.le_of_ble_eq_true rfl) hc hs ?_
      obtain ⟨I10, hC, h⟩ := h
      refine ab_callV (me2 := mt_M_pricesNow) (b := mx) (as := [.int v3, .int (ab_max32 1 (ab_min32 999 (((I mx_now (51 + v3).toNatClampNeg) * (100 + v2)) / 100)))]) (st := []) (rv := none) (M2 := (I10, L, ab_RR, n, nc, ns)) d_M_all_91 ce_M_pricesNow v_1908 v_1910 v_130 (by decide) rfl (Nat.le_of_ble_eq_true rfl) hC (Nat.le_refl _) (Nat.le_refl _) hc hs (fun j h9 => by cases h9) (fun _ _ => rfl) ?_
      show ab_E w (d + 1) mt_M_all 94 [.ref mx, .int v1, .int v2, .int v3] [] (I10, L, ab_RR, n, nc, ns) res
      refine ab_iinc (i := 3) (v := (v3 + 1)) d_M_all_94 rfl rfl (by decide) (Or.inr rfl) ?_
      refine ab_goto (tgt := 45) d_M_all_97 (by decide) ?_
      exact h
theorem r_M_turns_0 {w : ab_Wd} {d n nc ns : Nat} {I : Nat → Nat → Int32} {L : Nat → Nat → Int64} {res : ab_Re} (hT : w.1.stackTraces = false) (v1 : Int32) (v2 : Int32) (hc : nc ≤ res.2.2.2.2.2.1) (hs : ns ≤ res.2.2.2.2.2.2)
    (h : ((v1 < 0 → (res = (.inl (some (.int (-1))), ((ab_up (ab_up I mx 1 0) mx_status 1 ((I mx_status 1) + 1)), L, ab_RR, n, nc, ns)))) ∧ (¬ v1 < 0 → ((((I mx_now 0) - 1) < v1 → (res = (.inl (some (.int (-1))), ((ab_up (ab_up I mx 1 0) mx_status 1 ((I mx_status 1) + 1)), L, ab_RR, n, nc, ns)))) ∧ (¬ ((I mx_now 0) - 1) < v1 → (((((I mx_now 1) >>> (v1 &&& 31)) &&& 1) = 1 → (((1 : Int32) = v2 → (∃ (I12 : Nat → Nat → Int32), ab_C w (d + 1) mt_M_keep [.ref mx] ((ab_up I mx 1 0), L, ab_RR, n, nc, ns) (.inl none, (I12, L, ab_RR, n, nc, ns)) ∧ ∃ (I14 : Nat → Nat → Int32), ab_C w (d + 1) mt_M_turnsNow [.ref mx, .int v1] (I12, L, ab_RR, n, nc, ns) (.inl none, (I14, L, ab_RR, n, nc, ns)) ∧ ∃ (r15 : Int32) (I16 : Nat → Nat → Int32), ab_C w (d + 1) mt_M_piecesNow [.ref mx] (I14, L, ab_RR, n, nc, ns) (.inl (some (.int r15)), (I16, L, ab_RR, n, nc, ns)) ∧ res = (.inl (some (.int r15)), (I16, L, ab_RR, n, nc, ns)))) ∧ (¬ (1 : Int32) = v2 → (res = (.inl (some (.int (-1))), ((ab_up (ab_up I mx 1 0) mx_status 1 ((I mx_status 1) + 1)), L, ab_RR, n, nc, ns)))))) ∧ (¬ (((I mx_now 1) >>> (v1 &&& 31)) &&& 1) = 1 → (((0 : Int32) = v2 → (∃ (I21 : Nat → Nat → Int32), ab_C w (d + 1) mt_M_keep [.ref mx] ((ab_up I mx 1 0), L, ab_RR, n, nc, ns) (.inl none, (I21, L, ab_RR, n, nc, ns)) ∧ ∃ (I23 : Nat → Nat → Int32), ab_C w (d + 1) mt_M_turnsNow [.ref mx, .int v1] (I21, L, ab_RR, n, nc, ns) (.inl none, (I23, L, ab_RR, n, nc, ns)) ∧ ∃ (r24 : Int32) (I25 : Nat → Nat → Int32), ab_C w (d + 1) mt_M_piecesNow [.ref mx] (I23, L, ab_RR, n, nc, ns) (.inl (some (.int r24)), (I25, L, ab_RR, n, nc, ns)) ∧ res = (.inl (some (.int r24)), (I25, L, ab_RR, n, nc, ns)))) ∧ (¬ (0 : Int32) = v2 → (res = (.inl (some (.int (-1))), ((ab_up (ab_up I mx 1 0) mx_status 1 ((I mx_status 1) + 1)), L, ab_RR, n, nc, ns)))))))))))) : ab_E w (d + 2) mt_M_turns 0 [.ref mx, .int v1, .int v2] [] (I, L, ab_RR, n, nc, ns) res := by
  refine ab_aload_n (i := 0) d_M_turns_0 rfl rfl ?_
  refine ab_iconst (v := 0) d_M_turns_1 rfl ?_
  refine ab_putI (ci := 11) (k := 1) d_M_turns_2 v_1369 rfl (by decide) (by decide) rfl (Or.inl rfl) rfl rfl ?_
  refine ab_aload_n (i := 0) d_M_turns_5 rfl rfl ?_
  refine ab_iload_n (i := 1) d_M_turns_6 rfl rfl ?_
  by_cases c2 : v1 < 0
  · have h := h.1 c2
    refine ab_callV (me2 := mt_M_isCable) (b := mx) (as := [.int v1]) (st := []) (rv := (some (.int 0))) (M2 := ((ab_up I mx 1 0), L, ab_RR, n, nc, ns)) d_M_turns_7 ce_M_isCable v_1748 v_1750 v_105 (by decide) rfl (Nat.le_of_ble_eq_true rfl) (cx_M_isCable_0 v1 hT (show (vp_in 0 399) from by unfold vp_in; decide) c2) (Nat.le_refl _) (Nat.le_refl _) hc hs (fun j h9 => by cases h9) (fun _ _ => rfl) ?_
    show ab_E w (d + 2) mt_M_turns 10 [.ref mx, .int v1, .int v2] [.int 0] ((ab_up I mx 1 0), L, ab_RR, n, nc, ns) res
    refine ab_if_eq (tgt := 22) d_M_turns_10 (by decide) (fun _ => ?_) (fun c9 => absurd (show (0 : Int32) = 0 from by decide) c9)
    refine ab_aload_n (i := 0) d_M_turns_22 rfl rfl ?_
    refine ab_iconst (v := 1) d_M_turns_23 rfl ?_
    refine ab_callV (me2 := mt_M_refuse) (b := mx) (as := [.int 1]) (st := []) (rv := (some (.int (-1)))) (M2 := ((ab_up (ab_up I mx 1 0) mx_status 1 ((I mx_status 1) + 1)), L, ab_RR, n, nc, ns)) d_M_turns_24 ce_M_refuse v_1900 v_1902 v_128 (by decide) rfl (Nat.le_of_ble_eq_true rfl) (cx_M_refuse_0 1 hT (show (vp_in 1 3) from by unfold vp_in; decide) (show (vp_in 1 3) from by unfold vp_in; decide)) (Nat.le_refl _) (Nat.le_refl _) hc hs (fun j h9 => by cases h9) (fun _ _ => rfl) ?_
    show ab_E w (d + 2) mt_M_turns 27 [.ref mx, .int v1, .int v2] [.int (-1)] ((ab_up (ab_up I mx 1 0) mx_status 1 ((I mx_status 1) + 1)), L, ab_RR, n, nc, ns) res
    exact ab_iret (ty := .int) d_M_turns_27 rfl rfl h
  · have h := h.2 c2
    by_cases c5 : ((I mx_now 0) - 1) < v1
    · have h := h.1 c5
      refine ab_callV (me2 := mt_M_isCable) (b := mx) (as := [.int v1]) (st := []) (rv := (some (.int 0))) (M2 := ((ab_up I mx 1 0), L, ab_RR, n, nc, ns)) d_M_turns_7 ce_M_isCable v_1748 v_1750 v_105 (by decide) rfl (Nat.le_of_ble_eq_true rfl) (cx_M_isCable_1 v1 hT (show (vp_in 0 399) from by unfold vp_in; decide) c2 c5) (Nat.le_refl _) (Nat.le_refl _) hc hs (fun j h9 => by cases h9) (fun _ _ => rfl) ?_
      show ab_E w (d + 2) mt_M_turns 10 [.ref mx, .int v1, .int v2] [.int 0] ((ab_up I mx 1 0), L, ab_RR, n, nc, ns) res
      refine ab_if_eq (tgt := 22) d_M_turns_10 (by decide) (fun _ => ?_) (fun c9 => absurd (show (0 : Int32) = 0 from by decide) c9)
      refine ab_aload_n (i := 0) d_M_turns_22 rfl rfl ?_
      refine ab_iconst (v := 1) d_M_turns_23 rfl ?_
      refine ab_callV (me2 := mt_M_refuse) (b := mx) (as := [.int 1]) (st := []) (rv := (some (.int (-1)))) (M2 := ((ab_up (ab_up I mx 1 0) mx_status 1 ((I mx_status 1) + 1)), L, ab_RR, n, nc, ns)) d_M_turns_24 ce_M_refuse v_1900 v_1902 v_128 (by decide) rfl (Nat.le_of_ble_eq_true rfl) (cx_M_refuse_0 1 hT (show (vp_in 1 3) from by unfold vp_in; decide) (show (vp_in 1 3) from by unfold vp_in; decide)) (Nat.le_refl _) (Nat.le_refl _) hc hs (fun j h9 => by cases h9) (fun _ _ => rfl) ?_
      show ab_E w (d + 2) mt_M_turns 27 [.ref mx, .int v1, .int v2] [.int (-1)] ((ab_up (ab_up I mx 1 0) mx_status 1 ((I mx_status 1) + 1)), L, ab_RR, n, nc, ns) res
      exact ab_iret (ty := .int) d_M_turns_27 rfl rfl h
    · have h := h.2 c5
      refine ab_callV (me2 := mt_M_isCable) (b := mx) (as := [.int v1]) (st := []) (rv := (some (.int 1))) (M2 := ((ab_up I mx 1 0), L, ab_RR, n, nc, ns)) d_M_turns_7 ce_M_isCable v_1748 v_1750 v_105 (by decide) rfl (Nat.le_of_ble_eq_true rfl) (cx_M_isCable_2 v1 hT (show (vp_in 0 399) from by unfold vp_in; decide) c2 c5) (Nat.le_refl _) (Nat.le_refl _) hc hs (fun j h9 => by cases h9) (fun _ _ => rfl) ?_
      show ab_E w (d + 2) mt_M_turns 10 [.ref mx, .int v1, .int v2] [.int 1] ((ab_up I mx 1 0), L, ab_RR, n, nc, ns) res
      refine ab_if_eq (tgt := 22) d_M_turns_10 (by decide) (fun c9 => absurd c9 (show ¬ (1 : Int32) = 0 from by decide)) (fun _ => ?_)
      refine ab_aload_n (i := 0) d_M_turns_13 rfl rfl ?_
      refine ab_iload_n (i := 1) d_M_turns_14 rfl rfl ?_
      by_cases c9 : (((I mx_now 1) >>> (v1 &&& 31)) &&& 1) = 1
      · have h := h.1 c9
        refine ab_callV (me2 := mt_M_isSound) (b := mx) (as := [.int v1]) (st := []) (rv := (some (.int 1))) (M2 := ((ab_up I mx 1 0), L, ab_RR, n, nc, ns)) d_M_turns_15 ce_M_isSound v_1679 v_1681 v_89 (by decide) rfl (Nat.le_of_ble_eq_true rfl) (cx_M_isSound_1 v1 hT (show (vp_in 1 399) from by unfold vp_in; decide) c9) (Nat.le_refl _) (Nat.le_refl _) hc hs (fun j h9 => by cases h9) (fun _ _ => rfl) ?_
        show ab_E w (d + 2) mt_M_turns 18 [.ref mx, .int v1, .int v2] [.int 1] ((ab_up I mx 1 0), L, ab_RR, n, nc, ns) res
        refine ab_iload_n (i := 2) d_M_turns_18 rfl rfl ?_
        refine ab_icmp_eq (tgt := 28) d_M_turns_19 (by decide) (fun c10 => ?_) (fun c10 => ?_)
        · have h := h.1 c10
          refine ab_aload_n (i := 0) d_M_turns_28 rfl rfl ?_
          obtain ⟨I12, hC, h⟩ := h
          refine ab_callV (me2 := mt_M_keep) (b := mx) (as := []) (st := []) (rv := none) (M2 := (I12, L, ab_RR, n, nc, ns)) d_M_turns_29 ce_M_keep v_1904 v_1906 v_129 (by decide) rfl (Nat.le_of_ble_eq_true rfl) hC (Nat.le_refl _) (Nat.le_refl _) hc hs (fun j h9 => by cases h9) (fun _ _ => rfl) ?_
          show ab_E w (d + 2) mt_M_turns 32 [.ref mx, .int v1, .int v2] [] (I12, L, ab_RR, n, nc, ns) res
          refine ab_aload_n (i := 0) d_M_turns_32 rfl rfl ?_
          refine ab_iload_n (i := 1) d_M_turns_33 rfl rfl ?_
          obtain ⟨I14, hC, h⟩ := h
          refine ab_callV (me2 := mt_M_turnsNow) (b := mx) (as := [.int v1]) (st := []) (rv := none) (M2 := (I14, L, ab_RR, n, nc, ns)) d_M_turns_34 ce_M_turnsNow v_1936 v_1938 v_134 (by decide) rfl (Nat.le_of_ble_eq_true rfl) hC (Nat.le_refl _) (Nat.le_refl _) hc hs (fun j h9 => by cases h9) (fun _ _ => rfl) ?_
          show ab_E w (d + 2) mt_M_turns 37 [.ref mx, .int v1, .int v2] [] (I14, L, ab_RR, n, nc, ns) res
          refine ab_aload_n (i := 0) d_M_turns_37 rfl rfl ?_
          obtain ⟨r15, I16, hC, h⟩ := h
          refine ab_callV (me2 := mt_M_piecesNow) (b := mx) (as := []) (st := []) (rv := (some (.int r15))) (M2 := (I16, L, ab_RR, n, nc, ns)) d_M_turns_38 ce_M_piecesNow v_1667 v_1669 v_86 (by decide) rfl (Nat.le_of_ble_eq_true rfl) hC (Nat.le_refl _) (Nat.le_refl _) hc hs (fun j h9 => by cases h9) (fun _ _ => rfl) ?_
          show ab_E w (d + 2) mt_M_turns 41 [.ref mx, .int v1, .int v2] [.int r15] (I16, L, ab_RR, n, nc, ns) res
          exact ab_iret (ty := .int) d_M_turns_41 rfl rfl h
        · have h := h.2 c10
          refine ab_aload_n (i := 0) d_M_turns_22 rfl rfl ?_
          refine ab_iconst (v := 1) d_M_turns_23 rfl ?_
          refine ab_callV (me2 := mt_M_refuse) (b := mx) (as := [.int 1]) (st := []) (rv := (some (.int (-1)))) (M2 := ((ab_up (ab_up I mx 1 0) mx_status 1 ((I mx_status 1) + 1)), L, ab_RR, n, nc, ns)) d_M_turns_24 ce_M_refuse v_1900 v_1902 v_128 (by decide) rfl (Nat.le_of_ble_eq_true rfl) (cx_M_refuse_0 1 hT (show (vp_in 1 3) from by unfold vp_in; decide) (show (vp_in 1 3) from by unfold vp_in; decide)) (Nat.le_refl _) (Nat.le_refl _) hc hs (fun j h9 => by cases h9) (fun _ _ => rfl) ?_
          show ab_E w (d + 2) mt_M_turns 27 [.ref mx, .int v1, .int v2] [.int (-1)] ((ab_up (ab_up I mx 1 0) mx_status 1 ((I mx_status 1) + 1)), L, ab_RR, n, nc, ns) res
          exact ab_iret (ty := .int) d_M_turns_27 rfl rfl h
      · have h := h.2 c9
        refine ab_callV (me2 := mt_M_isSound) (b := mx) (as := [.int v1]) (st := []) (rv := (some (.int 0))) (M2 := ((ab_up I mx 1 0), L, ab_RR, n, nc, ns)) d_M_turns_15 ce_M_isSound v_1679 v_1681 v_89 (by decide) rfl (Nat.le_of_ble_eq_true rfl) (cx_M_isSound_0 v1 hT (show (vp_in 1 399) from by unfold vp_in; decide) c9) (Nat.le_refl _) (Nat.le_refl _) hc hs (fun j h9 => by cases h9) (fun _ _ => rfl) ?_
        show ab_E w (d + 2) mt_M_turns 18 [.ref mx, .int v1, .int v2] [.int 0] ((ab_up I mx 1 0), L, ab_RR, n, nc, ns) res
        refine ab_iload_n (i := 2) d_M_turns_18 rfl rfl ?_
        refine ab_icmp_eq (tgt := 28) d_M_turns_19 (by decide) (fun c19 => ?_) (fun c19 => ?_)
        · have h := h.1 c19
          refine ab_aload_n (i := 0) d_M_turns_28 rfl rfl ?_
          obtain ⟨I21, hC, h⟩ := h
          refine ab_callV (me2 := mt_M_keep) (b := mx) (as := []) (st := []) (rv := none) (M2 := (I21, L, ab_RR, n, nc, ns)) d_M_turns_29 ce_M_keep v_1904 v_1906 v_129 (by decide) rfl (Nat.le_of_ble_eq_true rfl) hC (Nat.le_refl _) (Nat.le_refl _) hc hs (fun j h9 => by cases h9) (fun _ _ => rfl) ?_
          show ab_E w (d + 2) mt_M_turns 32 [.ref mx, .int v1, .int v2] [] (I21, L, ab_RR, n, nc, ns) res
          refine ab_aload_n (i := 0) d_M_turns_32 rfl rfl ?_
          refine ab_iload_n (i := 1) d_M_turns_33 rfl rfl ?_
          obtain ⟨I23, hC, h⟩ := h
          refine ab_callV (me2 := mt_M_turnsNow) (b := mx) (as := [.int v1]) (st := []) (rv := none) (M2 := (I23, L, ab_RR, n, nc, ns)) d_M_turns_34 ce_M_turnsNow v_1936 v_1938 v_134 (by decide) rfl (Nat.le_of_ble_eq_true rfl) hC (Nat.le_refl _) (Nat.le_refl _) hc hs (fun j h9 => by cases h9) (fun _ _ => rfl) ?_
          show ab_E w (d + 2) mt_M_turns 37 [.ref mx, .int v1, .int v2] [] (I23, L, ab_RR, n, nc, ns) res
          refine ab_aload_n (i := 0) d_M_turns_37 rfl rfl ?_
          obtain ⟨r24, I25, hC, h⟩ := h
          refine ab_callV (me2 := mt_M_piecesNow) (b := mx) (as := []) (st := []) (rv := (some (.int r24))) (M2 := (I25, L, ab_RR, n, nc, ns)) d_M_turns_38 ce_M_piecesNow v_1667 v_1669 v_86 (by decide) rfl (Nat.le_of_ble_eq_true rfl) hC (Nat.le_refl _) (Nat.le_refl _) hc hs (fun j h9 => by cases h9) (fun _ _ => rfl) ?_
          show ab_E w (d + 2) mt_M_turns 41 [.ref mx, .int v1, .int v2] [.int r24] (I25, L, ab_RR, n, nc, ns) res
          exact ab_iret (ty := .int) d_M_turns_41 rfl rfl h
        · have h := h.2 c19
          refine ab_aload_n (i := 0) d_M_turns_22 rfl rfl ?_
          refine ab_iconst (v := 1) d_M_turns_23 rfl ?_
          refine ab_callV (me2 := mt_M_refuse) (b := mx) (as := [.int 1]) (st := []) (rv := (some (.int (-1)))) (M2 := ((ab_up (ab_up I mx 1 0) mx_status 1 ((I mx_status 1) + 1)), L, ab_RR, n, nc, ns)) d_M_turns_24 ce_M_refuse v_1900 v_1902 v_128 (by decide) rfl (Nat.le_of_ble_eq_true rfl) (cx_M_refuse_0 1 hT (show (vp_in 1 3) from by unfold vp_in; decide) (show (vp_in 1 3) from by unfold vp_in; decide)) (Nat.le_refl _) (Nat.le_refl _) hc hs (fun j h9 => by cases h9) (fun _ _ => rfl) ?_
          show ab_E w (d + 2) mt_M_turns 27 [.ref mx, .int v1, .int v2] [.int (-1)] ((ab_up (ab_up I mx 1 0) mx_status 1 ((I mx_status 1) + 1)), L, ab_RR, n, nc, ns) res
          exact ab_iret (ty := .int) d_M_turns_27 rfl rfl h
theorem r_M_breaks_0 {w : ab_Wd} {d n nc ns : Nat} {I : Nat → Nat → Int32} {L : Nat → Nat → Int64} {res : ab_Re} (hT : w.1.stackTraces = false) (v1 : Int32) (hc : nc ≤ res.2.2.2.2.2.1) (hs : ns ≤ res.2.2.2.2.2.2)
    (h : ∃ (r1 : Int32) (I2 : Nat → Nat → Int32), ab_C w d mt_M_turns [.ref mx, .int v1, .int 1] (I, L, ab_RR, n, nc, ns) (.inl (some (.int r1)), (I2, L, ab_RR, n, nc, ns)) ∧ res = (.inl (some (.int r1)), (I2, L, ab_RR, n, nc, ns))) : ab_E w (d + 1) mt_M_breaks 0 [.ref mx, .int v1] [] (I, L, ab_RR, n, nc, ns) res := by
  refine ab_aload_n (i := 0) d_M_breaks_0 rfl rfl ?_
  refine ab_iload_n (i := 1) d_M_breaks_1 rfl rfl ?_
  refine ab_iconst (v := 1) d_M_breaks_2 rfl ?_
  obtain ⟨r1, I2, hC, h⟩ := h
  refine ab_callV (me2 := mt_M_turns) (b := mx) (as := [.int v1, .int 1]) (st := []) (rv := (some (.int r1))) (M2 := (I2, L, ab_RR, n, nc, ns)) d_M_breaks_3 ce_M_turns v_1932 v_1934 v_133 (by decide) rfl (Nat.le_of_ble_eq_true rfl) hC (Nat.le_refl _) (Nat.le_refl _) hc hs (fun j h9 => by cases h9) (fun _ _ => rfl) ?_
  show ab_E w (d + 1) mt_M_breaks 6 [.ref mx, .int v1] [.int r1] (I2, L, ab_RR, n, nc, ns) res
  exact ab_iret (ty := .int) d_M_breaks_6 rfl rfl h
theorem r_M_mend_0 {w : ab_Wd} {d n nc ns : Nat} {I : Nat → Nat → Int32} {L : Nat → Nat → Int64} {res : ab_Re} (hT : w.1.stackTraces = false) (v1 : Int32) (hc : nc ≤ res.2.2.2.2.2.1) (hs : ns ≤ res.2.2.2.2.2.2)
    (h : ∃ (r1 : Int32) (I2 : Nat → Nat → Int32), ab_C w d mt_M_turns [.ref mx, .int v1, .int 0] (I, L, ab_RR, n, nc, ns) (.inl (some (.int r1)), (I2, L, ab_RR, n, nc, ns)) ∧ res = (.inl (some (.int r1)), (I2, L, ab_RR, n, nc, ns))) : ab_E w (d + 1) mt_M_mend 0 [.ref mx, .int v1] [] (I, L, ab_RR, n, nc, ns) res := by
  refine ab_aload_n (i := 0) d_M_mend_0 rfl rfl ?_
  refine ab_iload_n (i := 1) d_M_mend_1 rfl rfl ?_
  refine ab_iconst (v := 0) d_M_mend_2 rfl ?_
  obtain ⟨r1, I2, hC, h⟩ := h
  refine ab_callV (me2 := mt_M_turns) (b := mx) (as := [.int v1, .int 0]) (st := []) (rv := (some (.int r1))) (M2 := (I2, L, ab_RR, n, nc, ns)) d_M_mend_3 ce_M_turns v_1932 v_1934 v_133 (by decide) rfl (Nat.le_of_ble_eq_true rfl) hC (Nat.le_refl _) (Nat.le_refl _) hc hs (fun j h9 => by cases h9) (fun _ _ => rfl) ?_
  show ab_E w (d + 1) mt_M_mend 6 [.ref mx, .int v1] [.int r1] (I2, L, ab_RR, n, nc, ns) res
  exact ab_iret (ty := .int) d_M_mend_6 rfl rfl h
theorem r_M_lay_0 {w : ab_Wd} {d n nc ns : Nat} {I : Nat → Nat → Int32} {L : Nat → Nat → Int64} {res : ab_Re} (hT : w.1.stackTraces = false) (v1 : Int32) (v2 : Int32) (v3 : Int32) (v4 : Int32) (hc : nc ≤ res.2.2.2.2.2.1) (hs : ns ≤ res.2.2.2.2.2.2)
    (h : ((v1 < 0 → (res = (.inl (some (.int (-1))), ((ab_up (ab_up I mx 1 0) mx_status 1 ((I mx_status 1) + 1)), L, ab_RR, n, nc, ns)))) ∧ (¬ v1 < 0 → ((((I mx 2) - 1) < v1 → (res = (.inl (some (.int (-1))), ((ab_up (ab_up I mx 1 0) mx_status 1 ((I mx_status 1) + 1)), L, ab_RR, n, nc, ns)))) ∧ (¬ ((I mx 2) - 1) < v1 → ((v2 < 0 → (res = (.inl (some (.int (-1))), ((ab_up (ab_up I mx 1 0) mx_status 1 ((I mx_status 1) + 1)), L, ab_RR, n, nc, ns)))) ∧ (¬ v2 < 0 → ((((I mx 2) - 1) < v2 → (res = (.inl (some (.int (-1))), ((ab_up (ab_up I mx 1 0) mx_status 1 ((I mx_status 1) + 1)), L, ab_RR, n, nc, ns)))) ∧ (¬ ((I mx 2) - 1) < v2 → ((v1 = v2 → (res = (.inl (some (.int (-1))), ((ab_up (ab_up I mx 1 0) mx_status 1 ((I mx_status 1) + 1)), L, ab_RR, n, nc, ns)))) ∧ (¬ v1 = v2 → ((v3 < 1 → (res = (.inl (some (.int (-1))), ((ab_up (ab_up I mx 1 0) mx_status 1 ((I mx_status 1) + 1)), L, ab_RR, n, nc, ns)))) ∧ (¬ v3 < 1 → ((999 < v3 → (res = (.inl (some (.int (-1))), ((ab_up (ab_up I mx 1 0) mx_status 1 ((I mx_status 1) + 1)), L, ab_RR, n, nc, ns)))) ∧ (¬ 999 < v3 → ((v4 < 0 → (res = (.inl (some (.int (-1))), ((ab_up (ab_up I mx 1 0) mx_status 1 ((I mx_status 1) + 1)), L, ab_RR, n, nc, ns)))) ∧ (¬ v4 < 0 → ((3 < v4 → (res = (.inl (some (.int (-1))), ((ab_up (ab_up I mx 1 0) mx_status 1 ((I mx_status 1) + 1)), L, ab_RR, n, nc, ns)))) ∧ (¬ 3 < v4 → ((¬ (I mx_now 0) = 24 → (∃ (I35 : Nat → Nat → Int32), ab_C w (d + 1) mt_M_keep [.ref mx] ((ab_up I mx 1 0), L, ab_RR, n, nc, ns) (.inl none, (I35, L, ab_RR, n, nc, ns)) ∧ ∃ (r36 : Int32) (I37 : Nat → Nat → Int32), ab_C w (d + 1) mt_M_netNow [.ref mx] (I35, L, ab_RR, n, nc, ns) (.inl (some (.int r36)), (I37, L, ab_RR, n, nc, ns)) ∧ (vp_in (3 + (I37 mx_now 0)) 399) ∧ (vp_in (27 + (I37 mx_now 0)) 399) ∧ (vp_in (51 + (I37 mx_now 0)) 399) ∧ (vp_in (75 + (I37 mx_now 0)) 399) ∧ ∃ (I44 : Nat → Nat → Int32), ab_C w (d + 1) mt_M_swaps [.ref mx, .int 5, .int (I37 mx_now 0), .int r36] ((ab_up (ab_up (ab_up (ab_up (ab_up (ab_up I37 mx_now (3 + (I37 mx_now 0)).toNatClampNeg v1) mx_now (27 + (I37 mx_now 0)).toNatClampNeg v2) mx_now (51 + (I37 mx_now 0)).toNatClampNeg v3) mx_now (75 + (I37 mx_now 0)).toNatClampNeg v4) mx_now 1 (((ab_up (ab_up (ab_up (ab_up I37 mx_now (3 + (I37 mx_now 0)).toNatClampNeg v1) mx_now (27 + (I37 mx_now 0)).toNatClampNeg v2) mx_now (51 + (I37 mx_now 0)).toNatClampNeg v3) mx_now (75 + (I37 mx_now 0)).toNatClampNeg v4) mx_now 1) ||| ((1 : Int32) <<< ((I37 mx_now 0) &&& 31)))) mx_now 0 (((ab_up (ab_up (ab_up (ab_up (ab_up I37 mx_now (3 + (I37 mx_now 0)).toNatClampNeg v1) mx_now (27 + (I37 mx_now 0)).toNatClampNeg v2) mx_now (51 + (I37 mx_now 0)).toNatClampNeg v3) mx_now (75 + (I37 mx_now 0)).toNatClampNeg v4) mx_now 1 (((ab_up (ab_up (ab_up (ab_up I37 mx_now (3 + (I37 mx_now 0)).toNatClampNeg v1) mx_now (27 + (I37 mx_now 0)).toNatClampNeg v2) mx_now (51 + (I37 mx_now 0)).toNatClampNeg v3) mx_now (75 + (I37 mx_now 0)).toNatClampNeg v4) mx_now 1) ||| ((1 : Int32) <<< ((I37 mx_now 0) &&& 31)))) mx_now 0) + 1)), L, ab_RR, n, nc, ns) (.inl none, (I44, L, ab_RR, n, nc, ns)) ∧ res = (.inl (some (.int (I37 mx_now 0))), (I44, L, ab_RR, n, nc, ns)))) ∧ ((I mx_now 0) = 24 → (res = (.inl (some (.int (-1))), ((ab_up (ab_up I mx 1 0) mx_status 1 ((I mx_status 1) + 1)), L, ab_RR, n, nc, ns)))))))))))))))))))))))) : ab_E w (d + 2) mt_M_lay 0 [.ref mx, .int v1, .int v2, .int v3, .int v4, .null, .null] [] (I, L, ab_RR, n, nc, ns) res := by
  refine ab_aload_n (i := 0) d_M_lay_0 rfl rfl ?_
  refine ab_iconst (v := 0) d_M_lay_1 rfl ?_
  refine ab_putI (ci := 11) (k := 1) d_M_lay_2 v_1369 rfl (by decide) (by decide) rfl (Or.inl rfl) rfl rfl ?_
  refine ab_aload_n (i := 0) d_M_lay_5 rfl rfl ?_
  refine ab_iload_n (i := 1) d_M_lay_6 rfl rfl ?_
  by_cases c2 : v1 < 0
  · have h := h.1 c2
    refine ab_callV (me2 := mt_M_isSite) (b := mx) (as := [.int v1]) (st := []) (rv := (some (.int 0))) (M2 := ((ab_up I mx 1 0), L, ab_RR, n, nc, ns)) d_M_lay_7 ce_M_isSite v_1783 v_1785 v_110 (by decide) rfl (Nat.le_of_ble_eq_true rfl) (cx_M_isSite_0 v1 hT c2) (Nat.le_refl _) (Nat.le_refl _) hc hs (fun j h9 => by cases h9) (fun _ _ => rfl) ?_
    show ab_E w (d + 2) mt_M_lay 10 [.ref mx, .int v1, .int v2, .int v3, .int v4, .null, .null] [.int 0] ((ab_up I mx 1 0), L, ab_RR, n, nc, ns) res
    refine ab_if_eq (tgt := 56) d_M_lay_10 (by decide) (fun _ => ?_) (fun c9 => absurd (show (0 : Int32) = 0 from by decide) c9)
    refine ab_aload_n (i := 0) d_M_lay_56 rfl rfl ?_
    refine ab_iconst (v := 1) d_M_lay_57 rfl ?_
    refine ab_callV (me2 := mt_M_refuse) (b := mx) (as := [.int 1]) (st := []) (rv := (some (.int (-1)))) (M2 := ((ab_up (ab_up I mx 1 0) mx_status 1 ((I mx_status 1) + 1)), L, ab_RR, n, nc, ns)) d_M_lay_58 ce_M_refuse v_1900 v_1902 v_128 (by decide) rfl (Nat.le_of_ble_eq_true rfl) (cx_M_refuse_0 1 hT (show (vp_in 1 3) from by unfold vp_in; decide) (show (vp_in 1 3) from by unfold vp_in; decide)) (Nat.le_refl _) (Nat.le_refl _) hc hs (fun j h9 => by cases h9) (fun _ _ => rfl) ?_
    show ab_E w (d + 2) mt_M_lay 61 [.ref mx, .int v1, .int v2, .int v3, .int v4, .null, .null] [.int (-1)] ((ab_up (ab_up I mx 1 0) mx_status 1 ((I mx_status 1) + 1)), L, ab_RR, n, nc, ns) res
    exact ab_iret (ty := .int) d_M_lay_61 rfl rfl h
  · have h := h.2 c2
    by_cases c5 : ((I mx 2) - 1) < v1
    · have h := h.1 c5
      refine ab_callV (me2 := mt_M_isSite) (b := mx) (as := [.int v1]) (st := []) (rv := (some (.int 0))) (M2 := ((ab_up I mx 1 0), L, ab_RR, n, nc, ns)) d_M_lay_7 ce_M_isSite v_1783 v_1785 v_110 (by decide) rfl (Nat.le_of_ble_eq_true rfl) (cx_M_isSite_1 v1 hT c2 c5) (Nat.le_refl _) (Nat.le_refl _) hc hs (fun j h9 => by cases h9) (fun _ _ => rfl) ?_
      show ab_E w (d + 2) mt_M_lay 10 [.ref mx, .int v1, .int v2, .int v3, .int v4, .null, .null] [.int 0] ((ab_up I mx 1 0), L, ab_RR, n, nc, ns) res
      refine ab_if_eq (tgt := 56) d_M_lay_10 (by decide) (fun _ => ?_) (fun c9 => absurd (show (0 : Int32) = 0 from by decide) c9)
      refine ab_aload_n (i := 0) d_M_lay_56 rfl rfl ?_
      refine ab_iconst (v := 1) d_M_lay_57 rfl ?_
      refine ab_callV (me2 := mt_M_refuse) (b := mx) (as := [.int 1]) (st := []) (rv := (some (.int (-1)))) (M2 := ((ab_up (ab_up I mx 1 0) mx_status 1 ((I mx_status 1) + 1)), L, ab_RR, n, nc, ns)) d_M_lay_58 ce_M_refuse v_1900 v_1902 v_128 (by decide) rfl (Nat.le_of_ble_eq_true rfl) (cx_M_refuse_0 1 hT (show (vp_in 1 3) from by unfold vp_in; decide) (show (vp_in 1 3) from by unfold vp_in; decide)) (Nat.le_refl _) (Nat.le_refl _) hc hs (fun j h9 => by cases h9) (fun _ _ => rfl) ?_
      show ab_E w (d + 2) mt_M_lay 61 [.ref mx, .int v1, .int v2, .int v3, .int v4, .null, .null] [.int (-1)] ((ab_up (ab_up I mx 1 0) mx_status 1 ((I mx_status 1) + 1)), L, ab_RR, n, nc, ns) res
      exact ab_iret (ty := .int) d_M_lay_61 rfl rfl h
    · have h := h.2 c5
      refine ab_callV (me2 := mt_M_isSite) (b := mx) (as := [.int v1]) (st := []) (rv := (some (.int 1))) (M2 := ((ab_up I mx 1 0), L, ab_RR, n, nc, ns)) d_M_lay_7 ce_M_isSite v_1783 v_1785 v_110 (by decide) rfl (Nat.le_of_ble_eq_true rfl) (cx_M_isSite_2 v1 hT c2 c5) (Nat.le_refl _) (Nat.le_refl _) hc hs (fun j h9 => by cases h9) (fun _ _ => rfl) ?_
      show ab_E w (d + 2) mt_M_lay 10 [.ref mx, .int v1, .int v2, .int v3, .int v4, .null, .null] [.int 1] ((ab_up I mx 1 0), L, ab_RR, n, nc, ns) res
      refine ab_if_eq (tgt := 56) d_M_lay_10 (by decide) (fun c9 => absurd c9 (show ¬ (1 : Int32) = 0 from by decide)) (fun _ => ?_)
      refine ab_aload_n (i := 0) d_M_lay_13 rfl rfl ?_
      refine ab_iload_n (i := 2) d_M_lay_14 rfl rfl ?_
      by_cases c9 : v2 < 0
      · have h := h.1 c9
        refine ab_callV (me2 := mt_M_isSite) (b := mx) (as := [.int v2]) (st := []) (rv := (some (.int 0))) (M2 := ((ab_up I mx 1 0), L, ab_RR, n, nc, ns)) d_M_lay_15 ce_M_isSite v_1783 v_1785 v_110 (by decide) rfl (Nat.le_of_ble_eq_true rfl) (cx_M_isSite_0 v2 hT c9) (Nat.le_refl _) (Nat.le_refl _) hc hs (fun j h9 => by cases h9) (fun _ _ => rfl) ?_
        show ab_E w (d + 2) mt_M_lay 18 [.ref mx, .int v1, .int v2, .int v3, .int v4, .null, .null] [.int 0] ((ab_up I mx 1 0), L, ab_RR, n, nc, ns) res
        refine ab_if_eq (tgt := 56) d_M_lay_18 (by decide) (fun _ => ?_) (fun c9 => absurd (show (0 : Int32) = 0 from by decide) c9)
        refine ab_aload_n (i := 0) d_M_lay_56 rfl rfl ?_
        refine ab_iconst (v := 1) d_M_lay_57 rfl ?_
        refine ab_callV (me2 := mt_M_refuse) (b := mx) (as := [.int 1]) (st := []) (rv := (some (.int (-1)))) (M2 := ((ab_up (ab_up I mx 1 0) mx_status 1 ((I mx_status 1) + 1)), L, ab_RR, n, nc, ns)) d_M_lay_58 ce_M_refuse v_1900 v_1902 v_128 (by decide) rfl (Nat.le_of_ble_eq_true rfl) (cx_M_refuse_0 1 hT (show (vp_in 1 3) from by unfold vp_in; decide) (show (vp_in 1 3) from by unfold vp_in; decide)) (Nat.le_refl _) (Nat.le_refl _) hc hs (fun j h9 => by cases h9) (fun _ _ => rfl) ?_
        show ab_E w (d + 2) mt_M_lay 61 [.ref mx, .int v1, .int v2, .int v3, .int v4, .null, .null] [.int (-1)] ((ab_up (ab_up I mx 1 0) mx_status 1 ((I mx_status 1) + 1)), L, ab_RR, n, nc, ns) res
        exact ab_iret (ty := .int) d_M_lay_61 rfl rfl h
      · have h := h.2 c9
        by_cases c12 : ((I mx 2) - 1) < v2
        · have h := h.1 c12
          refine ab_callV (me2 := mt_M_isSite) (b := mx) (as := [.int v2]) (st := []) (rv := (some (.int 0))) (M2 := ((ab_up I mx 1 0), L, ab_RR, n, nc, ns)) d_M_lay_15 ce_M_isSite v_1783 v_1785 v_110 (by decide) rfl (Nat.le_of_ble_eq_true rfl) (cx_M_isSite_1 v2 hT c9 c12) (Nat.le_refl _) (Nat.le_refl _) hc hs (fun j h9 => by cases h9) (fun _ _ => rfl) ?_
          show ab_E w (d + 2) mt_M_lay 18 [.ref mx, .int v1, .int v2, .int v3, .int v4, .null, .null] [.int 0] ((ab_up I mx 1 0), L, ab_RR, n, nc, ns) res
          refine ab_if_eq (tgt := 56) d_M_lay_18 (by decide) (fun _ => ?_) (fun c9 => absurd (show (0 : Int32) = 0 from by decide) c9)
          refine ab_aload_n (i := 0) d_M_lay_56 rfl rfl ?_
          refine ab_iconst (v := 1) d_M_lay_57 rfl ?_
          refine ab_callV (me2 := mt_M_refuse) (b := mx) (as := [.int 1]) (st := []) (rv := (some (.int (-1)))) (M2 := ((ab_up (ab_up I mx 1 0) mx_status 1 ((I mx_status 1) + 1)), L, ab_RR, n, nc, ns)) d_M_lay_58 ce_M_refuse v_1900 v_1902 v_128 (by decide) rfl (Nat.le_of_ble_eq_true rfl) (cx_M_refuse_0 1 hT (show (vp_in 1 3) from by unfold vp_in; decide) (show (vp_in 1 3) from by unfold vp_in; decide)) (Nat.le_refl _) (Nat.le_refl _) hc hs (fun j h9 => by cases h9) (fun _ _ => rfl) ?_
          show ab_E w (d + 2) mt_M_lay 61 [.ref mx, .int v1, .int v2, .int v3, .int v4, .null, .null] [.int (-1)] ((ab_up (ab_up I mx 1 0) mx_status 1 ((I mx_status 1) + 1)), L, ab_RR, n, nc, ns) res
          exact ab_iret (ty := .int) d_M_lay_61 rfl rfl h
        · have h := h.2 c12
          refine ab_callV (me2 := mt_M_isSite) (b := mx) (as := [.int v2]) (st := []) (rv := (some (.int 1))) (M2 := ((ab_up I mx 1 0), L, ab_RR, n, nc, ns)) d_M_lay_15 ce_M_isSite v_1783 v_1785 v_110 (by decide) rfl (Nat.le_of_ble_eq_true rfl) (cx_M_isSite_2 v2 hT c9 c12) (Nat.le_refl _) (Nat.le_refl _) hc hs (fun j h9 => by cases h9) (fun _ _ => rfl) ?_
          show ab_E w (d + 2) mt_M_lay 18 [.ref mx, .int v1, .int v2, .int v3, .int v4, .null, .null] [.int 1] ((ab_up I mx 1 0), L, ab_RR, n, nc, ns) res
          refine ab_if_eq (tgt := 56) d_M_lay_18 (by decide) (fun c9 => absurd c9 (show ¬ (1 : Int32) = 0 from by decide)) (fun _ => ?_)
          refine ab_iload_n (i := 1) d_M_lay_21 rfl rfl ?_
          refine ab_iload_n (i := 2) d_M_lay_22 rfl rfl ?_
          refine ab_icmp_eq (tgt := 56) d_M_lay_23 (by decide) (fun c15 => ?_) (fun c15 => ?_)
          · have h := h.1 c15
            refine ab_aload_n (i := 0) d_M_lay_56 rfl rfl ?_
            refine ab_iconst (v := 1) d_M_lay_57 rfl ?_
            refine ab_callV (me2 := mt_M_refuse) (b := mx) (as := [.int 1]) (st := []) (rv := (some (.int (-1)))) (M2 := ((ab_up (ab_up I mx 1 0) mx_status 1 ((I mx_status 1) + 1)), L, ab_RR, n, nc, ns)) d_M_lay_58 ce_M_refuse v_1900 v_1902 v_128 (by decide) rfl (Nat.le_of_ble_eq_true rfl) (cx_M_refuse_0 1 hT (show (vp_in 1 3) from by unfold vp_in; decide) (show (vp_in 1 3) from by unfold vp_in; decide)) (Nat.le_refl _) (Nat.le_refl _) hc hs (fun j h9 => by cases h9) (fun _ _ => rfl) ?_
            show ab_E w (d + 2) mt_M_lay 61 [.ref mx, .int v1, .int v2, .int v3, .int v4, .null, .null] [.int (-1)] ((ab_up (ab_up I mx 1 0) mx_status 1 ((I mx_status 1) + 1)), L, ab_RR, n, nc, ns) res
            exact ab_iret (ty := .int) d_M_lay_61 rfl rfl h
          · have h := h.2 c15
            refine ab_iload_n (i := 3) d_M_lay_26 rfl rfl ?_
            refine ab_iconst (v := 1) d_M_lay_27 rfl ?_
            refine ab_sipush (v := 999) d_M_lay_28 rfl ?_
            by_cases c19 : v3 < 1
            · have h := h.1 c19
              refine ab_callS (me2 := mt_M_isIn) (as := [.int v3, .int 1, .int 999]) (st := []) (rv := (some (.int 0))) (M2 := ((ab_up I mx 1 0), L, ab_RR, n, nc, ns)) d_M_lay_31 ce_M_isIn ⟨v_1753, Or.inl v_1752⟩ (Nat.le_of_ble_eq_true rfl) (cx_M_isIn_0 v3 1 999 hT c19) (Nat.le_refl _) (Nat.le_refl _) hc hs (fun j h9 => by cases h9) (fun _ _ => rfl) ?_
              show ab_E w (d + 2) mt_M_lay 34 [.ref mx, .int v1, .int v2, .int v3, .int v4, .null, .null] [.int 0] ((ab_up I mx 1 0), L, ab_RR, n, nc, ns) res
              refine ab_if_eq (tgt := 56) d_M_lay_34 (by decide) (fun _ => ?_) (fun c9 => absurd (show (0 : Int32) = 0 from by decide) c9)
              refine ab_aload_n (i := 0) d_M_lay_56 rfl rfl ?_
              refine ab_iconst (v := 1) d_M_lay_57 rfl ?_
              refine ab_callV (me2 := mt_M_refuse) (b := mx) (as := [.int 1]) (st := []) (rv := (some (.int (-1)))) (M2 := ((ab_up (ab_up I mx 1 0) mx_status 1 ((I mx_status 1) + 1)), L, ab_RR, n, nc, ns)) d_M_lay_58 ce_M_refuse v_1900 v_1902 v_128 (by decide) rfl (Nat.le_of_ble_eq_true rfl) (cx_M_refuse_0 1 hT (show (vp_in 1 3) from by unfold vp_in; decide) (show (vp_in 1 3) from by unfold vp_in; decide)) (Nat.le_refl _) (Nat.le_refl _) hc hs (fun j h9 => by cases h9) (fun _ _ => rfl) ?_
              show ab_E w (d + 2) mt_M_lay 61 [.ref mx, .int v1, .int v2, .int v3, .int v4, .null, .null] [.int (-1)] ((ab_up (ab_up I mx 1 0) mx_status 1 ((I mx_status 1) + 1)), L, ab_RR, n, nc, ns) res
              exact ab_iret (ty := .int) d_M_lay_61 rfl rfl h
            · have h := h.2 c19
              by_cases c22 : 999 < v3
              · have h := h.1 c22
                refine ab_callS (me2 := mt_M_isIn) (as := [.int v3, .int 1, .int 999]) (st := []) (rv := (some (.int 0))) (M2 := ((ab_up I mx 1 0), L, ab_RR, n, nc, ns)) d_M_lay_31 ce_M_isIn ⟨v_1753, Or.inl v_1752⟩ (Nat.le_of_ble_eq_true rfl) (cx_M_isIn_1 v3 1 999 hT c19 c22) (Nat.le_refl _) (Nat.le_refl _) hc hs (fun j h9 => by cases h9) (fun _ _ => rfl) ?_
                show ab_E w (d + 2) mt_M_lay 34 [.ref mx, .int v1, .int v2, .int v3, .int v4, .null, .null] [.int 0] ((ab_up I mx 1 0), L, ab_RR, n, nc, ns) res
                refine ab_if_eq (tgt := 56) d_M_lay_34 (by decide) (fun _ => ?_) (fun c9 => absurd (show (0 : Int32) = 0 from by decide) c9)
                refine ab_aload_n (i := 0) d_M_lay_56 rfl rfl ?_
                refine ab_iconst (v := 1) d_M_lay_57 rfl ?_
                refine ab_callV (me2 := mt_M_refuse) (b := mx) (as := [.int 1]) (st := []) (rv := (some (.int (-1)))) (M2 := ((ab_up (ab_up I mx 1 0) mx_status 1 ((I mx_status 1) + 1)), L, ab_RR, n, nc, ns)) d_M_lay_58 ce_M_refuse v_1900 v_1902 v_128 (by decide) rfl (Nat.le_of_ble_eq_true rfl) (cx_M_refuse_0 1 hT (show (vp_in 1 3) from by unfold vp_in; decide) (show (vp_in 1 3) from by unfold vp_in; decide)) (Nat.le_refl _) (Nat.le_refl _) hc hs (fun j h9 => by cases h9) (fun _ _ => rfl) ?_
                show ab_E w (d + 2) mt_M_lay 61 [.ref mx, .int v1, .int v2, .int v3, .int v4, .null, .null] [.int (-1)] ((ab_up (ab_up I mx 1 0) mx_status 1 ((I mx_status 1) + 1)), L, ab_RR, n, nc, ns) res
                exact ab_iret (ty := .int) d_M_lay_61 rfl rfl h
              · have h := h.2 c22
                refine ab_callS (me2 := mt_M_isIn) (as := [.int v3, .int 1, .int 999]) (st := []) (rv := (some (.int 1))) (M2 := ((ab_up I mx 1 0), L, ab_RR, n, nc, ns)) d_M_lay_31 ce_M_isIn ⟨v_1753, Or.inl v_1752⟩ (Nat.le_of_ble_eq_true rfl) (cx_M_isIn_2 v3 1 999 hT c19 c22) (Nat.le_refl _) (Nat.le_refl _) hc hs (fun j h9 => by cases h9) (fun _ _ => rfl) ?_
                show ab_E w (d + 2) mt_M_lay 34 [.ref mx, .int v1, .int v2, .int v3, .int v4, .null, .null] [.int 1] ((ab_up I mx 1 0), L, ab_RR, n, nc, ns) res
                refine ab_if_eq (tgt := 56) d_M_lay_34 (by decide) (fun c9 => absurd c9 (show ¬ (1 : Int32) = 0 from by decide)) (fun _ => ?_)
                refine ab_iload (i := 4) d_M_lay_37 rfl ?_
                refine ab_iconst (v := 0) d_M_lay_39 rfl ?_
                refine ab_iconst (v := 3) d_M_lay_40 rfl ?_
                by_cases c26 : v4 < 0
                · have h := h.1 c26
                  refine ab_callS (me2 := mt_M_isIn) (as := [.int v4, .int 0, .int 3]) (st := []) (rv := (some (.int 0))) (M2 := ((ab_up I mx 1 0), L, ab_RR, n, nc, ns)) d_M_lay_41 ce_M_isIn ⟨v_1753, Or.inl v_1752⟩ (Nat.le_of_ble_eq_true rfl) (cx_M_isIn_0 v4 0 3 hT c26) (Nat.le_refl _) (Nat.le_refl _) hc hs (fun j h9 => by cases h9) (fun _ _ => rfl) ?_
                  show ab_E w (d + 2) mt_M_lay 44 [.ref mx, .int v1, .int v2, .int v3, .int v4, .null, .null] [.int 0] ((ab_up I mx 1 0), L, ab_RR, n, nc, ns) res
                  refine ab_if_eq (tgt := 56) d_M_lay_44 (by decide) (fun _ => ?_) (fun c9 => absurd (show (0 : Int32) = 0 from by decide) c9)
                  refine ab_aload_n (i := 0) d_M_lay_56 rfl rfl ?_
                  refine ab_iconst (v := 1) d_M_lay_57 rfl ?_
                  refine ab_callV (me2 := mt_M_refuse) (b := mx) (as := [.int 1]) (st := []) (rv := (some (.int (-1)))) (M2 := ((ab_up (ab_up I mx 1 0) mx_status 1 ((I mx_status 1) + 1)), L, ab_RR, n, nc, ns)) d_M_lay_58 ce_M_refuse v_1900 v_1902 v_128 (by decide) rfl (Nat.le_of_ble_eq_true rfl) (cx_M_refuse_0 1 hT (show (vp_in 1 3) from by unfold vp_in; decide) (show (vp_in 1 3) from by unfold vp_in; decide)) (Nat.le_refl _) (Nat.le_refl _) hc hs (fun j h9 => by cases h9) (fun _ _ => rfl) ?_
                  show ab_E w (d + 2) mt_M_lay 61 [.ref mx, .int v1, .int v2, .int v3, .int v4, .null, .null] [.int (-1)] ((ab_up (ab_up I mx 1 0) mx_status 1 ((I mx_status 1) + 1)), L, ab_RR, n, nc, ns) res
                  exact ab_iret (ty := .int) d_M_lay_61 rfl rfl h
                · have h := h.2 c26
                  by_cases c29 : 3 < v4
                  · have h := h.1 c29
                    refine ab_callS (me2 := mt_M_isIn) (as := [.int v4, .int 0, .int 3]) (st := []) (rv := (some (.int 0))) (M2 := ((ab_up I mx 1 0), L, ab_RR, n, nc, ns)) d_M_lay_41 ce_M_isIn ⟨v_1753, Or.inl v_1752⟩ (Nat.le_of_ble_eq_true rfl) (cx_M_isIn_1 v4 0 3 hT c26 c29) (Nat.le_refl _) (Nat.le_refl _) hc hs (fun j h9 => by cases h9) (fun _ _ => rfl) ?_
                    show ab_E w (d + 2) mt_M_lay 44 [.ref mx, .int v1, .int v2, .int v3, .int v4, .null, .null] [.int 0] ((ab_up I mx 1 0), L, ab_RR, n, nc, ns) res
                    refine ab_if_eq (tgt := 56) d_M_lay_44 (by decide) (fun _ => ?_) (fun c9 => absurd (show (0 : Int32) = 0 from by decide) c9)
                    refine ab_aload_n (i := 0) d_M_lay_56 rfl rfl ?_
                    refine ab_iconst (v := 1) d_M_lay_57 rfl ?_
                    refine ab_callV (me2 := mt_M_refuse) (b := mx) (as := [.int 1]) (st := []) (rv := (some (.int (-1)))) (M2 := ((ab_up (ab_up I mx 1 0) mx_status 1 ((I mx_status 1) + 1)), L, ab_RR, n, nc, ns)) d_M_lay_58 ce_M_refuse v_1900 v_1902 v_128 (by decide) rfl (Nat.le_of_ble_eq_true rfl) (cx_M_refuse_0 1 hT (show (vp_in 1 3) from by unfold vp_in; decide) (show (vp_in 1 3) from by unfold vp_in; decide)) (Nat.le_refl _) (Nat.le_refl _) hc hs (fun j h9 => by cases h9) (fun _ _ => rfl) ?_
                    show ab_E w (d + 2) mt_M_lay 61 [.ref mx, .int v1, .int v2, .int v3, .int v4, .null, .null] [.int (-1)] ((ab_up (ab_up I mx 1 0) mx_status 1 ((I mx_status 1) + 1)), L, ab_RR, n, nc, ns) res
                    exact ab_iret (ty := .int) d_M_lay_61 rfl rfl h
                  · have h := h.2 c29
                    refine ab_callS (me2 := mt_M_isIn) (as := [.int v4, .int 0, .int 3]) (st := []) (rv := (some (.int 1))) (M2 := ((ab_up I mx 1 0), L, ab_RR, n, nc, ns)) d_M_lay_41 ce_M_isIn ⟨v_1753, Or.inl v_1752⟩ (Nat.le_of_ble_eq_true rfl) (cx_M_isIn_2 v4 0 3 hT c26 c29) (Nat.le_refl _) (Nat.le_refl _) hc hs (fun j h9 => by cases h9) (fun _ _ => rfl) ?_
                    show ab_E w (d + 2) mt_M_lay 44 [.ref mx, .int v1, .int v2, .int v3, .int v4, .null, .null] [.int 1] ((ab_up I mx 1 0), L, ab_RR, n, nc, ns) res
                    refine ab_if_eq (tgt := 56) d_M_lay_44 (by decide) (fun c9 => absurd c9 (show ¬ (1 : Int32) = 0 from by decide)) (fun _ => ?_)
                    refine ab_aload_n (i := 0) d_M_lay_47 rfl rfl ?_
                    refine ab_callV (me2 := mt_M_many) (b := mx) (as := []) (st := []) (rv := (some (.int (I mx_now 0)))) (M2 := ((ab_up I mx 1 0), L, ab_RR, n, nc, ns)) d_M_lay_48 ce_M_many v_1635 v_1637 v_79 (by decide) rfl (Nat.le_of_ble_eq_true rfl) (cx_M_many_0  hT (show (vp_in 0 399) from by unfold vp_in; decide)) (Nat.le_refl _) (Nat.le_refl _) hc hs (fun j h9 => by cases h9) (fun _ _ => rfl) ?_
                    show ab_E w (d + 2) mt_M_lay 51 [.ref mx, .int v1, .int v2, .int v3, .int v4, .null, .null] [.int (I mx_now 0)] ((ab_up I mx 1 0), L, ab_RR, n, nc, ns) res
                    refine ab_bipush (v := 24) d_M_lay_51 rfl ?_
                    refine ab_icmp_ne (tgt := 62) d_M_lay_53 (by decide) (fun c33 => ?_) (fun c33 => ?_)
                    · have h := h.1 c33
                      refine ab_aload_n (i := 0) d_M_lay_62 rfl rfl ?_
                      obtain ⟨I35, hC, h⟩ := h
                      refine ab_callV (me2 := mt_M_keep) (b := mx) (as := []) (st := []) (rv := none) (M2 := (I35, L, ab_RR, n, nc, ns)) d_M_lay_63 ce_M_keep v_1904 v_1906 v_129 (by decide) rfl (Nat.le_of_ble_eq_true rfl) hC (Nat.le_refl _) (Nat.le_refl _) hc hs (fun j h9 => by cases h9) (fun _ _ => rfl) ?_
                      show ab_E w (d + 2) mt_M_lay 66 [.ref mx, .int v1, .int v2, .int v3, .int v4, .null, .null] [] (I35, L, ab_RR, n, nc, ns) res
                      refine ab_aload_n (i := 0) d_M_lay_66 rfl rfl ?_
                      obtain ⟨r36, I37, hC, h⟩ := h
                      refine ab_callV (me2 := mt_M_netNow) (b := mx) (as := []) (st := []) (rv := (some (.int r36))) (M2 := (I37, L, ab_RR, n, nc, ns)) d_M_lay_67 ce_M_netNow v_1639 v_1641 v_80 (by decide) rfl (Nat.le_of_ble_eq_true rfl) hC (Nat.le_refl _) (Nat.le_refl _) hc hs (fun j h9 => by cases h9) (fun _ _ => rfl) ?_
                      show ab_E w (d + 2) mt_M_lay 70 [.ref mx, .int v1, .int v2, .int v3, .int v4, .null, .null] [.int r36] (I37, L, ab_RR, n, nc, ns) res
                      refine ab_istore (i := 5) d_M_lay_70 (by decide) (Or.inr rfl) ?_
                      refine ab_aload_n (i := 0) d_M_lay_72 rfl rfl ?_
                      refine ab_callV (me2 := mt_M_many) (b := mx) (as := []) (st := []) (rv := (some (.int (I37 mx_now 0)))) (M2 := (I37, L, ab_RR, n, nc, ns)) d_M_lay_73 ce_M_many v_1635 v_1637 v_79 (by decide) rfl (Nat.le_of_ble_eq_true rfl) (cx_M_many_0  hT (show (vp_in 0 399) from by unfold vp_in; decide)) (Nat.le_refl _) (Nat.le_refl _) hc hs (fun j h9 => by cases h9) (fun _ _ => rfl) ?_
                      show ab_E w (d + 2) mt_M_lay 76 [.ref mx, .int v1, .int v2, .int v3, .int v4, .int r36, .null] [.int (I37 mx_now 0)] (I37, L, ab_RR, n, nc, ns) res
                      refine ab_istore (i := 6) d_M_lay_76 (by decide) (Or.inr rfl) ?_
                      refine ab_aload_n (i := 0) d_M_lay_78 rfl rfl ?_
                      refine ab_getR (ci := 11) (k := 4) (j := mx_now) d_M_lay_79 v_1372 rfl (by decide) (by decide) rfl r_mx_4 ?_
                      refine ab_iconst (v := 3) d_M_lay_82 rfl ?_
                      refine ab_iload (i := 6) d_M_lay_83 rfl ?_
                      refine ab_iadd d_M_lay_85 ?_
                      refine ab_iload_n (i := 1) d_M_lay_86 rfl rfl ?_
                      have g39 := h.1; have h := h.2
                      refine ab_iast d_M_lay_87 rfl rfl g39 ?_
                      refine ab_aload_n (i := 0) d_M_lay_88 rfl rfl ?_
                      refine ab_getR (ci := 11) (k := 4) (j := mx_now) d_M_lay_89 v_1372 rfl (by decide) (by decide) rfl r_mx_4 ?_
                      refine ab_bipush (v := 27) d_M_lay_92 rfl ?_
                      refine ab_iload (i := 6) d_M_lay_94 rfl ?_
                      refine ab_iadd d_M_lay_96 ?_
                      refine ab_iload_n (i := 2) d_M_lay_97 rfl rfl ?_
                      have g40 := h.1; have h := h.2
                      refine ab_iast d_M_lay_98 rfl rfl g40 ?_
                      refine ab_aload_n (i := 0) d_M_lay_99 rfl rfl ?_
                      refine ab_getR (ci := 11) (k := 4) (j := mx_now) d_M_lay_100 v_1372 rfl (by decide) (by decide) rfl r_mx_4 ?_
                      refine ab_bipush (v := 51) d_M_lay_103 rfl ?_
                      refine ab_iload (i := 6) d_M_lay_105 rfl ?_
                      refine ab_iadd d_M_lay_107 ?_
                      refine ab_iload_n (i := 3) d_M_lay_108 rfl rfl ?_
                      have g41 := h.1; have h := h.2
                      refine ab_iast d_M_lay_109 rfl rfl g41 ?_
                      refine ab_aload_n (i := 0) d_M_lay_110 rfl rfl ?_
                      refine ab_getR (ci := 11) (k := 4) (j := mx_now) d_M_lay_111 v_1372 rfl (by decide) (by decide) rfl r_mx_4 ?_
                      refine ab_bipush (v := 75) d_M_lay_114 rfl ?_
                      refine ab_iload (i := 6) d_M_lay_116 rfl ?_
                      refine ab_iadd d_M_lay_118 ?_
                      refine ab_iload (i := 4) d_M_lay_119 rfl ?_
                      have g42 := h.1; have h := h.2
                      refine ab_iast d_M_lay_121 rfl rfl g42 ?_
                      refine ab_aload_n (i := 0) d_M_lay_122 rfl rfl ?_
                      refine ab_getR (ci := 11) (k := 4) (j := mx_now) d_M_lay_123 v_1372 rfl (by decide) (by decide) rfl r_mx_4 ?_
                      refine ab_iconst (v := 1) d_M_lay_126 rfl ?_
                      refine ab_dup2 d_M_lay_127 ?_
                      refine ab_iald d_M_lay_128 rfl rfl (by unfold vp_in; decide) ?_
                      refine ab_iconst (v := 1) d_M_lay_129 rfl ?_
                      refine ab_iload (i := 6) d_M_lay_130 rfl ?_
                      refine ab_ishl d_M_lay_132 ?_
                      refine ab_ior d_M_lay_133 ?_
                      refine ab_iast d_M_lay_134 rfl rfl (by unfold vp_in; decide) ?_
                      refine ab_aload_n (i := 0) d_M_lay_135 rfl rfl ?_
                      refine ab_getR (ci := 11) (k := 4) (j := mx_now) d_M_lay_136 v_1372 rfl (by decide) (by decide) rfl r_mx_4 ?_
                      refine ab_iconst (v := 0) d_M_lay_139 rfl ?_
                      refine ab_dup2 d_M_lay_140 ?_
                      refine ab_iald d_M_lay_141 rfl rfl (by unfold vp_in; decide) ?_
                      refine ab_iconst (v := 1) d_M_lay_142 rfl ?_
                      refine ab_iadd d_M_lay_143 ?_
                      refine ab_iast d_M_lay_144 rfl rfl (by unfold vp_in; decide) ?_
                      refine ab_aload_n (i := 0) d_M_lay_145 rfl rfl ?_
                      refine ab_iconst (v := 5) d_M_lay_146 rfl ?_
                      refine ab_iload (i := 6) d_M_lay_147 rfl ?_
                      refine ab_iload (i := 5) d_M_lay_149 rfl ?_
                      obtain ⟨I44, hC, h⟩ := h
                      refine ab_callV (me2 := mt_M_swaps) (b := mx) (as := [.int 5, .int (I37 mx_now 0), .int r36]) (st := []) (rv := none) (M2 := (I44, L, ab_RR, n, nc, ns)) d_M_lay_151 ce_M_swaps v_1912 v_1914 v_131 (by decide) rfl (Nat.le_of_ble_eq_true rfl) hC (Nat.le_refl _) (Nat.le_refl _) hc hs (fun j h9 => by cases h9) (fun _ _ => rfl) ?_
                      show ab_E w (d + 2) mt_M_lay 154 [.ref mx, .int v1, .int v2, .int v3, .int v4, .int r36, .int (I37 mx_now 0)] [] (I44, L, ab_RR, n, nc, ns) res
                      refine ab_iload (i := 6) d_M_lay_154 rfl ?_
                      exact ab_iret (ty := .int) d_M_lay_156 rfl rfl h
                    · have h := h.2 c33
                      refine ab_aload_n (i := 0) d_M_lay_56 rfl rfl ?_
                      refine ab_iconst (v := 1) d_M_lay_57 rfl ?_
                      refine ab_callV (me2 := mt_M_refuse) (b := mx) (as := [.int 1]) (st := []) (rv := (some (.int (-1)))) (M2 := ((ab_up (ab_up I mx 1 0) mx_status 1 ((I mx_status 1) + 1)), L, ab_RR, n, nc, ns)) d_M_lay_58 ce_M_refuse v_1900 v_1902 v_128 (by decide) rfl (Nat.le_of_ble_eq_true rfl) (cx_M_refuse_0 1 hT (show (vp_in 1 3) from by unfold vp_in; decide) (show (vp_in 1 3) from by unfold vp_in; decide)) (Nat.le_refl _) (Nat.le_refl _) hc hs (fun j h9 => by cases h9) (fun _ _ => rfl) ?_
                      show ab_E w (d + 2) mt_M_lay 61 [.ref mx, .int v1, .int v2, .int v3, .int v4, .null, .null] [.int (-1)] ((ab_up (ab_up I mx 1 0) mx_status 1 ((I mx_status 1) + 1)), L, ab_RR, n, nc, ns) res
                      exact ab_iret (ty := .int) d_M_lay_61 rfl rfl h
theorem r_M_undo_0 {w : ab_Wd} {d n nc ns : Nat} {I : Nat → Nat → Int32} {L : Nat → Nat → Int64} {res : ab_Re} (hT : w.1.stackTraces = false)  (hc : nc ≤ res.2.2.2.2.2.1) (hs : ns ≤ res.2.2.2.2.2.2)
    (h : ((¬ (I mx 41) = 0 → (ab_E w d mt_M_undo 26 [.ref mx, .int 0] [] ((ab_up (ab_up I mx 1 0) mx 41 ((I mx 41) - 1)), L, ab_RR, n, nc, ns) res)) ∧ ((I mx 41) = 0 → (res = (.inl (some (.int (-1))), ((ab_up I mx 1 0), L, ab_RR, n, nc, ns)))))) : ab_E w d mt_M_undo 0 [.ref mx, .null] [] (I, L, ab_RR, n, nc, ns) res := by
  refine ab_aload_n (i := 0) d_M_undo_0 rfl rfl ?_
  refine ab_iconst (v := 0) d_M_undo_1 rfl ?_
  refine ab_putI (ci := 11) (k := 1) d_M_undo_2 v_1369 rfl (by decide) (by decide) rfl (Or.inl rfl) rfl rfl ?_
  refine ab_aload_n (i := 0) d_M_undo_5 rfl rfl ?_
  refine ab_getI (ci := 11) (k := 41) d_M_undo_6 v_1409 rfl (by decide) (by decide) rfl ?_
  refine ab_if_ne (tgt := 14) d_M_undo_9 (by decide) (fun c1 => ?_) (fun c1 => ?_)
  · have h := h.1 c1
    refine ab_aload_n (i := 0) d_M_undo_14 rfl rfl ?_
    refine ab_dupr d_M_undo_15 ?_
    refine ab_getI (ci := 11) (k := 41) d_M_undo_16 v_1409 rfl (by decide) (by decide) rfl ?_
    refine ab_iconst (v := 1) d_M_undo_19 rfl ?_
    refine ab_isub d_M_undo_20 ?_
    refine ab_putI (ci := 11) (k := 41) d_M_undo_21 v_1409 rfl (by decide) (by decide) rfl (Or.inl rfl) rfl rfl ?_
    refine ab_iconst (v := 0) d_M_undo_24 rfl ?_
    refine ab_istore_n (i := 1) d_M_undo_25 rfl (by decide) (Or.inr rfl) ?_
    exact h
  · have h := h.2 c1
    refine ab_iconst (v := (-1)) d_M_undo_12 rfl ?_
    exact ab_iret (ty := .int) d_M_undo_13 rfl rfl h
theorem r_M_undo_26 {w : ab_Wd} {d n nc ns : Nat} {I : Nat → Nat → Int32} {L : Nat → Nat → Int64} {res : ab_Re} (hT : w.1.stackTraces = false) (v1 : Int32) (hc : nc ≤ res.2.2.2.2.2.1) (hs : ns ≤ res.2.2.2.2.2.2)
    (h : ((399 ≤ v1 → (res = (.inl (some (.int (I mx 41))), (I, L, ab_RR, n, nc, ns)))) ∧ (¬ 399 ≤ v1 → ((vp_in ((399 * (I mx 41)) + v1) 15960) ∧ (vp_in v1 399) ∧ ab_E w d mt_M_undo 26 [.ref mx, .int (v1 + 1)] [] ((ab_up I mx_now v1.toNatClampNeg (I mx_past ((399 * (I mx 41)) + v1).toNatClampNeg)), L, ab_RR, n, nc, ns) res)))) : ab_E w d mt_M_undo 26 [.ref mx, .int v1] [] (I, L, ab_RR, n, nc, ns) res := by
  refine ab_iload_n (i := 1) d_M_undo_26 rfl rfl ?_
  refine ab_sipush (v := 399) d_M_undo_27 rfl ?_
  refine ab_icmp_ge (tgt := 60) d_M_undo_30 (by decide) (fun c1 => ?_) (fun c1 => ?_)
  · have h := h.1 c1
    refine ab_aload_n (i := 0) d_M_undo_60 rfl rfl ?_
    refine ab_getI (ci := 11) (k := 41) d_M_undo_61 v_1409 rfl (by decide) (by decide) rfl ?_
    exact ab_iret (ty := .int) d_M_undo_64 rfl rfl h
  · have h := h.2 c1
    refine ab_aload_n (i := 0) d_M_undo_33 rfl rfl ?_
    refine ab_getR (ci := 11) (k := 4) (j := mx_now) d_M_undo_34 v_1372 rfl (by decide) (by decide) rfl r_mx_4 ?_
    refine ab_iload_n (i := 1) d_M_undo_37 rfl rfl ?_
    refine ab_aload_n (i := 0) d_M_undo_38 rfl rfl ?_
    refine ab_getR (ci := 11) (k := 42) (j := mx_past) d_M_undo_39 v_1410 rfl (by decide) (by decide) rfl r_mx_42 ?_
    refine ab_sipush (v := 399) d_M_undo_42 rfl ?_
    refine ab_aload_n (i := 0) d_M_undo_45 rfl rfl ?_
    refine ab_getI (ci := 11) (k := 41) d_M_undo_46 v_1409 rfl (by decide) (by decide) rfl ?_
    refine ab_imul d_M_undo_49 ?_
    refine ab_iload_n (i := 1) d_M_undo_50 rfl rfl ?_
    refine ab_iadd d_M_undo_51 ?_
    have g2 := h.1; have h := h.2
    refine ab_iald d_M_undo_52 rfl rfl g2 ?_
    have g3 := h.1; have h := h.2
    refine ab_iast d_M_undo_53 rfl rfl g3 ?_
    refine ab_iinc (i := 1) (v := (v1 + 1)) d_M_undo_54 rfl rfl (by decide) (Or.inr rfl) ?_
    refine ab_goto (tgt := 26) d_M_undo_57 (by decide) ?_
    exact h
theorem r_M_note_0 {w : ab_Wd} {d n nc ns : Nat} {I : Nat → Nat → Int32} {L : Nat → Nat → Int64} {res : ab_Re} (hT : w.1.stackTraces = false) (v1 : Int32) (v2 : Int32) (hc : nc ≤ res.2.2.2.2.2.1) (hs : ns ≤ res.2.2.2.2.2.2)
    (h : (((I mx 43) = 8 → (res = (.inl (some (.int (-1))), ((ab_up (ab_up I mx 1 0) mx_status 2 ((I mx_status 2) + 1)), L, ab_RR, n, nc, ns)))) ∧ (¬ (I mx 43) = 8 → ((v1 < 0 → (res = (.inl (some (.int (-1))), ((ab_up (ab_up I mx 1 0) mx_status 2 ((I mx_status 2) + 1)), L, ab_RR, n, nc, ns)))) ∧ (¬ v1 < 0 → ((((I mx_now 0) - 1) < v1 → (res = (.inl (some (.int (-1))), ((ab_up (ab_up I mx 1 0) mx_status 2 ((I mx_status 2) + 1)), L, ab_RR, n, nc, ns)))) ∧ (¬ ((I mx_now 0) - 1) < v1 → ((vp_in (I mx 43) 8) ∧ ((v2 = 0 → (res = (.inl (some (.int ((I mx 43) + 1))), ((ab_up (ab_up (ab_up (ab_up I mx 1 0) mx_notedCable (I mx 43).toNatClampNeg v1) mx_notedIn (I mx 43).toNatClampNeg 0) mx 43 ((I mx 43) + 1)), L, ab_RR, n, nc, ns)))) ∧ (¬ v2 = 0 → (res = (.inl (some (.int ((I mx 43) + 1))), ((ab_up (ab_up (ab_up (ab_up I mx 1 0) mx_notedCable (I mx 43).toNatClampNeg v1) mx_notedIn (I mx 43).toNatClampNeg 1) mx 43 ((I mx 43) + 1)), L, ab_RR, n, nc, ns))))))))))))) : ab_E w (d + 2) mt_M_note 0 [.ref mx, .int v1, .int v2] [] (I, L, ab_RR, n, nc, ns) res := by
  refine ab_aload_n (i := 0) d_M_note_0 rfl rfl ?_
  refine ab_iconst (v := 0) d_M_note_1 rfl ?_
  refine ab_putI (ci := 11) (k := 1) d_M_note_2 v_1369 rfl (by decide) (by decide) rfl (Or.inl rfl) rfl rfl ?_
  refine ab_aload_n (i := 0) d_M_note_5 rfl rfl ?_
  refine ab_getI (ci := 11) (k := 43) d_M_note_6 v_1411 rfl (by decide) (by decide) rfl ?_
  refine ab_bipush (v := 8) d_M_note_9 rfl ?_
  refine ab_icmp_eq (tgt := 22) d_M_note_11 (by decide) (fun c1 => ?_) (fun c1 => ?_)
  · have h := h.1 c1
    refine ab_aload_n (i := 0) d_M_note_22 rfl rfl ?_
    refine ab_iconst (v := 2) d_M_note_23 rfl ?_
    refine ab_callV (me2 := mt_M_refuse) (b := mx) (as := [.int 2]) (st := []) (rv := (some (.int (-1)))) (M2 := ((ab_up (ab_up I mx 1 0) mx_status 2 ((I mx_status 2) + 1)), L, ab_RR, n, nc, ns)) d_M_note_24 ce_M_refuse v_1900 v_1902 v_128 (by decide) rfl (Nat.le_of_ble_eq_true rfl) (cx_M_refuse_0 2 hT (show (vp_in 2 3) from by unfold vp_in; decide) (show (vp_in 2 3) from by unfold vp_in; decide)) (Nat.le_refl _) (Nat.le_refl _) hc hs (fun j h9 => by cases h9) (fun _ _ => rfl) ?_
    show ab_E w (d + 2) mt_M_note 27 [.ref mx, .int v1, .int v2] [.int (-1)] ((ab_up (ab_up I mx 1 0) mx_status 2 ((I mx_status 2) + 1)), L, ab_RR, n, nc, ns) res
    exact ab_iret (ty := .int) d_M_note_27 rfl rfl h
  · have h := h.2 c1
    refine ab_aload_n (i := 0) d_M_note_14 rfl rfl ?_
    refine ab_iload_n (i := 1) d_M_note_15 rfl rfl ?_
    by_cases c5 : v1 < 0
    · have h := h.1 c5
      refine ab_callV (me2 := mt_M_isCable) (b := mx) (as := [.int v1]) (st := []) (rv := (some (.int 0))) (M2 := ((ab_up I mx 1 0), L, ab_RR, n, nc, ns)) d_M_note_16 ce_M_isCable v_1748 v_1750 v_105 (by decide) rfl (Nat.le_of_ble_eq_true rfl) (cx_M_isCable_0 v1 hT (show (vp_in 0 399) from by unfold vp_in; decide) c5) (Nat.le_refl _) (Nat.le_refl _) hc hs (fun j h9 => by cases h9) (fun _ _ => rfl) ?_
      show ab_E w (d + 2) mt_M_note 19 [.ref mx, .int v1, .int v2] [.int 0] ((ab_up I mx 1 0), L, ab_RR, n, nc, ns) res
      refine ab_if_ne (tgt := 28) d_M_note_19 (by decide) (fun c9 => absurd (show (0 : Int32) = 0 from by decide) c9) (fun _ => ?_)
      refine ab_aload_n (i := 0) d_M_note_22 rfl rfl ?_
      refine ab_iconst (v := 2) d_M_note_23 rfl ?_
      refine ab_callV (me2 := mt_M_refuse) (b := mx) (as := [.int 2]) (st := []) (rv := (some (.int (-1)))) (M2 := ((ab_up (ab_up I mx 1 0) mx_status 2 ((I mx_status 2) + 1)), L, ab_RR, n, nc, ns)) d_M_note_24 ce_M_refuse v_1900 v_1902 v_128 (by decide) rfl (Nat.le_of_ble_eq_true rfl) (cx_M_refuse_0 2 hT (show (vp_in 2 3) from by unfold vp_in; decide) (show (vp_in 2 3) from by unfold vp_in; decide)) (Nat.le_refl _) (Nat.le_refl _) hc hs (fun j h9 => by cases h9) (fun _ _ => rfl) ?_
      show ab_E w (d + 2) mt_M_note 27 [.ref mx, .int v1, .int v2] [.int (-1)] ((ab_up (ab_up I mx 1 0) mx_status 2 ((I mx_status 2) + 1)), L, ab_RR, n, nc, ns) res
      exact ab_iret (ty := .int) d_M_note_27 rfl rfl h
    · have h := h.2 c5
      by_cases c8 : ((I mx_now 0) - 1) < v1
      · have h := h.1 c8
        refine ab_callV (me2 := mt_M_isCable) (b := mx) (as := [.int v1]) (st := []) (rv := (some (.int 0))) (M2 := ((ab_up I mx 1 0), L, ab_RR, n, nc, ns)) d_M_note_16 ce_M_isCable v_1748 v_1750 v_105 (by decide) rfl (Nat.le_of_ble_eq_true rfl) (cx_M_isCable_1 v1 hT (show (vp_in 0 399) from by unfold vp_in; decide) c5 c8) (Nat.le_refl _) (Nat.le_refl _) hc hs (fun j h9 => by cases h9) (fun _ _ => rfl) ?_
        show ab_E w (d + 2) mt_M_note 19 [.ref mx, .int v1, .int v2] [.int 0] ((ab_up I mx 1 0), L, ab_RR, n, nc, ns) res
        refine ab_if_ne (tgt := 28) d_M_note_19 (by decide) (fun c9 => absurd (show (0 : Int32) = 0 from by decide) c9) (fun _ => ?_)
        refine ab_aload_n (i := 0) d_M_note_22 rfl rfl ?_
        refine ab_iconst (v := 2) d_M_note_23 rfl ?_
        refine ab_callV (me2 := mt_M_refuse) (b := mx) (as := [.int 2]) (st := []) (rv := (some (.int (-1)))) (M2 := ((ab_up (ab_up I mx 1 0) mx_status 2 ((I mx_status 2) + 1)), L, ab_RR, n, nc, ns)) d_M_note_24 ce_M_refuse v_1900 v_1902 v_128 (by decide) rfl (Nat.le_of_ble_eq_true rfl) (cx_M_refuse_0 2 hT (show (vp_in 2 3) from by unfold vp_in; decide) (show (vp_in 2 3) from by unfold vp_in; decide)) (Nat.le_refl _) (Nat.le_refl _) hc hs (fun j h9 => by cases h9) (fun _ _ => rfl) ?_
        show ab_E w (d + 2) mt_M_note 27 [.ref mx, .int v1, .int v2] [.int (-1)] ((ab_up (ab_up I mx 1 0) mx_status 2 ((I mx_status 2) + 1)), L, ab_RR, n, nc, ns) res
        exact ab_iret (ty := .int) d_M_note_27 rfl rfl h
      · have h := h.2 c8
        refine ab_callV (me2 := mt_M_isCable) (b := mx) (as := [.int v1]) (st := []) (rv := (some (.int 1))) (M2 := ((ab_up I mx 1 0), L, ab_RR, n, nc, ns)) d_M_note_16 ce_M_isCable v_1748 v_1750 v_105 (by decide) rfl (Nat.le_of_ble_eq_true rfl) (cx_M_isCable_2 v1 hT (show (vp_in 0 399) from by unfold vp_in; decide) c5 c8) (Nat.le_refl _) (Nat.le_refl _) hc hs (fun j h9 => by cases h9) (fun _ _ => rfl) ?_
        show ab_E w (d + 2) mt_M_note 19 [.ref mx, .int v1, .int v2] [.int 1] ((ab_up I mx 1 0), L, ab_RR, n, nc, ns) res
        refine ab_if_ne (tgt := 28) d_M_note_19 (by decide) (fun _ => ?_) (fun c9 => absurd c9 (show ¬ (1 : Int32) = 0 from by decide))
        refine ab_aload_n (i := 0) d_M_note_28 rfl rfl ?_
        refine ab_getR (ci := 11) (k := 44) (j := mx_notedCable) d_M_note_29 v_1412 rfl (by decide) (by decide) rfl r_mx_44 ?_
        refine ab_aload_n (i := 0) d_M_note_32 rfl rfl ?_
        refine ab_getI (ci := 11) (k := 43) d_M_note_33 v_1411 rfl (by decide) (by decide) rfl ?_
        refine ab_iload_n (i := 1) d_M_note_36 rfl rfl ?_
        have g11 := h.1; have h := h.2
        refine ab_iast d_M_note_37 rfl rfl g11 ?_
        refine ab_aload_n (i := 0) d_M_note_38 rfl rfl ?_
        refine ab_getR (ci := 11) (k := 45) (j := mx_notedIn) d_M_note_39 v_1413 rfl (by decide) (by decide) rfl r_mx_45 ?_
        refine ab_aload_n (i := 0) d_M_note_42 rfl rfl ?_
        refine ab_getI (ci := 11) (k := 43) d_M_note_43 v_1411 rfl (by decide) (by decide) rfl ?_
        refine ab_iload_n (i := 2) d_M_note_46 rfl rfl ?_
        refine ab_if_eq (tgt := 54) d_M_note_47 (by decide) (fun c12 => ?_) (fun c12 => ?_)
        · have h := h.1 c12
          refine ab_iconst (v := 0) d_M_note_54 rfl ?_
          refine ab_iast d_M_note_55 rfl rfl g11 ?_
          refine ab_aload_n (i := 0) d_M_note_56 rfl rfl ?_
          refine ab_dupr d_M_note_57 ?_
          refine ab_getI (ci := 11) (k := 43) d_M_note_58 v_1411 rfl (by decide) (by decide) rfl ?_
          refine ab_iconst (v := 1) d_M_note_61 rfl ?_
          refine ab_iadd d_M_note_62 ?_
          refine ab_putI (ci := 11) (k := 43) d_M_note_63 v_1411 rfl (by decide) (by decide) rfl (Or.inl rfl) rfl rfl ?_
          refine ab_aload_n (i := 0) d_M_note_66 rfl rfl ?_
          refine ab_getI (ci := 11) (k := 43) d_M_note_67 v_1411 rfl (by decide) (by decide) rfl ?_
          exact ab_iret (ty := .int) d_M_note_70 rfl rfl h
        · have h := h.2 c12
          refine ab_iconst (v := 1) d_M_note_50 rfl ?_
          refine ab_goto (tgt := 55) d_M_note_51 (by decide) ?_
          refine ab_iast d_M_note_55 rfl rfl g11 ?_
          refine ab_aload_n (i := 0) d_M_note_56 rfl rfl ?_
          refine ab_dupr d_M_note_57 ?_
          refine ab_getI (ci := 11) (k := 43) d_M_note_58 v_1411 rfl (by decide) (by decide) rfl ?_
          refine ab_iconst (v := 1) d_M_note_61 rfl ?_
          refine ab_iadd d_M_note_62 ?_
          refine ab_putI (ci := 11) (k := 43) d_M_note_63 v_1411 rfl (by decide) (by decide) rfl (Or.inl rfl) rfl rfl ?_
          refine ab_aload_n (i := 0) d_M_note_66 rfl rfl ?_
          refine ab_getI (ci := 11) (k := 43) d_M_note_67 v_1411 rfl (by decide) (by decide) rfl ?_
          exact ab_iret (ty := .int) d_M_note_70 rfl rfl h
theorem cx_M_forget_0 {w : ab_Wd} {d n nc ns : Nat} {I : Nat → Nat → Int32} {L : Nat → Nat → Int64}  (hT : w.1.stackTraces = false)  : ab_C w d mt_M_forget [.ref mx] (I, L, ab_RR, n, nc, ns) (.inl none, ((ab_up (ab_up I mx 1 0) mx 43 0), L, ab_RR, n, nc, ns)) := by
  refine ab_C_of (by decide) rfl (Nat.le_of_ble_eq_true rfl) hT ?_
  have hc := Nat.le_refl nc
  have hs := Nat.le_refl ns
  refine ab_aload_n (i := 0) d_M_forget_0 rfl rfl ?_
  refine ab_iconst (v := 0) d_M_forget_1 rfl ?_
  refine ab_putI (ci := 11) (k := 1) d_M_forget_2 v_1369 rfl (by decide) (by decide) rfl (Or.inl rfl) rfl rfl ?_
  refine ab_aload_n (i := 0) d_M_forget_5 rfl rfl ?_
  refine ab_iconst (v := 0) d_M_forget_6 rfl ?_
  refine ab_putI (ci := 11) (k := 43) d_M_forget_7 v_1411 rfl (by decide) (by decide) rfl (Or.inl rfl) rfl rfl ?_
  exact ab_vret d_M_forget_10 rfl rfl
theorem r_M_isAsNoted_0 {w : ab_Wd} {d n nc ns : Nat} {I : Nat → Nat → Int32} {L : Nat → Nat → Int64} {res : ab_Re} (hT : w.1.stackTraces = false) (v1 : Int32) (hc : nc ≤ res.2.2.2.2.2.1) (hs : ns ≤ res.2.2.2.2.2.2)
    (h : ab_E w d mt_M_isAsNoted 4 [.ref mx, .int v1, .int 1, .int 0] [] (I, L, ab_RR, n, nc, ns) res) : ab_E w d mt_M_isAsNoted 0 [.ref mx, .int v1, .null, .null] [] (I, L, ab_RR, n, nc, ns) res := by
  refine ab_iconst (v := 1) d_M_isAsNoted_0 rfl ?_
  refine ab_istore_n (i := 2) d_M_isAsNoted_1 rfl (by decide) (Or.inr rfl) ?_
  refine ab_iconst (v := 0) d_M_isAsNoted_2 rfl ?_
  refine ab_istore_n (i := 3) d_M_isAsNoted_3 rfl (by decide) (Or.inr rfl) ?_
  exact h
theorem r_M_isAsNoted_4 {w : ab_Wd} {d n nc ns : Nat} {I : Nat → Nat → Int32} {L : Nat → Nat → Int64} {res : ab_Re} (hT : w.1.stackTraces = false) (v1 : Int32) (v2 : Int32) (v3 : Int32) (hc : nc ≤ res.2.2.2.2.2.1) (hs : ns ≤ res.2.2.2.2.2.2)
    (h : (((I mx 43) ≤ v3 → ((narrow .boolean (.int v2) = .int v2) ∧ res = (.inl (some (.int v2)), (I, L, ab_RR, n, nc, ns)))) ∧ (¬ (I mx 43) ≤ v3 → ((v2 = 0 → (ab_E w d mt_M_isAsNoted 4 [.ref mx, .int v1, .int 0, .int (v3 + 1)] [] (I, L, ab_RR, n, nc, ns) res)) ∧ (¬ v2 = 0 → ((vp_in v3 8) ∧ ((¬ ((v1 >>> ((I mx_notedCable v3.toNatClampNeg) &&& 31)) &&& 1) = (I mx_notedIn v3.toNatClampNeg) → (ab_E w d mt_M_isAsNoted 4 [.ref mx, .int v1, .int 0, .int (v3 + 1)] [] (I, L, ab_RR, n, nc, ns) res)) ∧ (((v1 >>> ((I mx_notedCable v3.toNatClampNeg) &&& 31)) &&& 1) = (I mx_notedIn v3.toNatClampNeg) → (ab_E w d mt_M_isAsNoted 4 [.ref mx, .int v1, .int 1, .int (v3 + 1)] [] (I, L, ab_RR, n, nc, ns) res))))))))) : ab_E w d mt_M_isAsNoted 4 [.ref mx, .int v1, .int v2, .int v3] [] (I, L, ab_RR, n, nc, ns) res := by
  refine ab_iload_n (i := 3) d_M_isAsNoted_4 rfl rfl ?_
  refine ab_aload_n (i := 0) d_M_isAsNoted_5 rfl rfl ?_
  refine ab_getI (ci := 11) (k := 43) d_M_isAsNoted_6 v_1411 rfl (by decide) (by decide) rfl ?_
  refine ab_icmp_ge (tgt := 47) d_M_isAsNoted_9 (by decide) (fun c1 => ?_) (fun c1 => ?_)
  · have h := h.1 c1
    refine ab_iload_n (i := 2) d_M_isAsNoted_47 rfl rfl ?_
    have g2 := h.1; have h := h.2
    exact ab_iret (ty := .boolean) d_M_isAsNoted_48 rfl g2 h
  · have h := h.2 c1
    refine ab_iload_n (i := 2) d_M_isAsNoted_12 rfl rfl ?_
    refine ab_if_eq (tgt := 39) d_M_isAsNoted_13 (by decide) (fun c3 => ?_) (fun c3 => ?_)
    · have h := h.1 c3
      refine ab_iconst (v := 0) d_M_isAsNoted_39 rfl ?_
      refine ab_istore_n (i := 2) d_M_isAsNoted_40 rfl (by decide) (Or.inr rfl) ?_
      refine ab_iinc (i := 3) (v := (v3 + 1)) d_M_isAsNoted_41 rfl rfl (by decide) (Or.inr rfl) ?_
      refine ab_goto (tgt := 4) d_M_isAsNoted_44 (by decide) ?_
      exact h
    · have h := h.2 c3
      refine ab_iload_n (i := 1) d_M_isAsNoted_16 rfl rfl ?_
      refine ab_aload_n (i := 0) d_M_isAsNoted_17 rfl rfl ?_
      refine ab_getR (ci := 11) (k := 44) (j := mx_notedCable) d_M_isAsNoted_18 v_1412 rfl (by decide) (by decide) rfl r_mx_44 ?_
      refine ab_iload_n (i := 3) d_M_isAsNoted_21 rfl rfl ?_
      have g4 := h.1; have h := h.2
      refine ab_iald d_M_isAsNoted_22 rfl rfl g4 ?_
      refine ab_ishr d_M_isAsNoted_23 ?_
      refine ab_iconst (v := 1) d_M_isAsNoted_24 rfl ?_
      refine ab_iand d_M_isAsNoted_25 ?_
      refine ab_aload_n (i := 0) d_M_isAsNoted_26 rfl rfl ?_
      refine ab_getR (ci := 11) (k := 45) (j := mx_notedIn) d_M_isAsNoted_27 v_1413 rfl (by decide) (by decide) rfl r_mx_45 ?_
      refine ab_iload_n (i := 3) d_M_isAsNoted_30 rfl rfl ?_
      refine ab_iald d_M_isAsNoted_31 rfl rfl g4 ?_
      refine ab_icmp_ne (tgt := 39) d_M_isAsNoted_32 (by decide) (fun c5 => ?_) (fun c5 => ?_)
      · have h := h.1 c5
        refine ab_iconst (v := 0) d_M_isAsNoted_39 rfl ?_
        refine ab_istore_n (i := 2) d_M_isAsNoted_40 rfl (by decide) (Or.inr rfl) ?_
        refine ab_iinc (i := 3) (v := (v3 + 1)) d_M_isAsNoted_41 rfl rfl (by decide) (Or.inr rfl) ?_
        refine ab_goto (tgt := 4) d_M_isAsNoted_44 (by decide) ?_
        exact h
      · have h := h.2 c5
        refine ab_iconst (v := 1) d_M_isAsNoted_35 rfl ?_
        refine ab_goto (tgt := 40) d_M_isAsNoted_36 (by decide) ?_
        refine ab_istore_n (i := 2) d_M_isAsNoted_40 rfl (by decide) (Or.inr rfl) ?_
        refine ab_iinc (i := 3) (v := (v3 + 1)) d_M_isAsNoted_41 rfl rfl (by decide) (Or.inr rfl) ?_
        refine ab_goto (tgt := 4) d_M_isAsNoted_44 (by decide) ?_
        exact h
theorem r_M_tellFits_0 {w : ab_Wd} {d n nc ns : Nat} {I : Nat → Nat → Int32} {L : Nat → Nat → Int64} {res : ab_Re} (hT : w.1.stackTraces = false) (v1 : Int32) (hc : nc ≤ res.2.2.2.2.2.1) (hs : ns ≤ res.2.2.2.2.2.2)
    (h : (vp_in (51 + v1) 399) ∧ ab_E w (d + 1) mt_M_tellFits 30 [.ref mx, .int v1, .int (I mx_now (51 + v1).toNatClampNeg), .int 999, .null] [] ((ab_up (ab_up (ab_up (ab_up I mx 46 0) mx 47 (-1)) mx 48 (-1)) mx 49 0), L, ab_RR, n, nc, ns) res) : ab_E w (d + 1) mt_M_tellFits 0 [.ref mx, .int v1, .null, .null, .null] [] (I, L, ab_RR, n, nc, ns) res := by
  refine ab_aload_n (i := 0) d_M_tellFits_0 rfl rfl ?_
  refine ab_iload_n (i := 1) d_M_tellFits_1 rfl rfl ?_
  have g2 := h.1; have h := h.2
  refine ab_callV (me2 := mt_M_priceOf) (b := mx) (as := [.int v1]) (st := []) (rv := (some (.int (I mx_now (51 + v1).toNatClampNeg)))) (M2 := (I, L, ab_RR, n, nc, ns)) d_M_tellFits_2 ce_M_priceOf v_1654 v_1656 v_83 (by decide) rfl (Nat.le_of_ble_eq_true rfl) (cx_M_priceOf_0 v1 hT g2) (Nat.le_refl _) (Nat.le_refl _) hc hs (fun j h9 => by cases h9) (fun _ _ => rfl) ?_
  show ab_E w (d + 1) mt_M_tellFits 5 [.ref mx, .int v1, .null, .null, .null] [.int (I mx_now (51 + v1).toNatClampNeg)] (I, L, ab_RR, n, nc, ns) res
  refine ab_istore_n (i := 2) d_M_tellFits_5 rfl (by decide) (Or.inr rfl) ?_
  refine ab_aload_n (i := 0) d_M_tellFits_6 rfl rfl ?_
  refine ab_iconst (v := 0) d_M_tellFits_7 rfl ?_
  refine ab_putI (ci := 11) (k := 46) d_M_tellFits_8 v_1414 rfl (by decide) (by decide) rfl (Or.inl rfl) rfl rfl ?_
  refine ab_aload_n (i := 0) d_M_tellFits_11 rfl rfl ?_
  refine ab_iconst (v := (-1)) d_M_tellFits_12 rfl ?_
  refine ab_putI (ci := 11) (k := 47) d_M_tellFits_13 v_1415 rfl (by decide) (by decide) rfl (Or.inl rfl) rfl rfl ?_
  refine ab_aload_n (i := 0) d_M_tellFits_16 rfl rfl ?_
  refine ab_iconst (v := (-1)) d_M_tellFits_17 rfl ?_
  refine ab_putI (ci := 11) (k := 48) d_M_tellFits_18 v_1416 rfl (by decide) (by decide) rfl (Or.inl rfl) rfl rfl ?_
  refine ab_aload_n (i := 0) d_M_tellFits_21 rfl rfl ?_
  refine ab_iconst (v := 0) d_M_tellFits_22 rfl ?_
  refine ab_putI (ci := 11) (k := 49) d_M_tellFits_23 v_1417 rfl (by decide) (by decide) rfl (Or.inl rfl) rfl rfl ?_
  refine ab_sipush (v := 999) d_M_tellFits_26 rfl ?_
  refine ab_istore_n (i := 3) d_M_tellFits_29 rfl (by decide) (Or.inr rfl) ?_
  exact h
theorem r_M_tellFits_30 {w : ab_Wd} {d n nc ns : Nat} {I : Nat → Nat → Int32} {L : Nat → Nat → Int64} {res : ab_Re} (hT : w.1.stackTraces = false) (v1 : Int32) (v2 : Int32) (v3 : Int32) (hc : nc ≤ res.2.2.2.2.2.1) (hs : ns ≤ res.2.2.2.2.2.2)
    (h : ((v3 ≤ 0 → ((vp_in (51 + v1) 399) ∧ res = (.inl none, ((ab_up I mx_now (51 + v1).toNatClampNeg v2), L, ab_RR, n, nc, ns)))) ∧ (¬ v3 ≤ 0 → ((vp_in (51 + v1) 399) ∧ ∃ (r4 : Int32) (I5 : Nat → Nat → Int32), ab_C w d mt_M_netNow [.ref mx] ((ab_up I mx_now (51 + v1).toNatClampNeg v3), L, ab_RR, n, nc, ns) (.inl (some (.int r4)), (I5, L, ab_RR, n, nc, ns)) ∧ ∃ (r6 : Int32), ab_C w d mt_M_isAsNoted [.ref mx, .int r4] (I5, L, ab_RR, n, nc, ns) (.inl (some (.int r6)), (I5, L, ab_RR, n, nc, ns)) ∧ ((¬ r6 = 0 → (ab_E w (d + 1) mt_M_tellFits 30 [.ref mx, .int v1, .int v2, .int (v3 + (-1)), .null] [] ((ab_up (ab_up (ab_up (ab_up I5 mx 46 ((I5 mx 46) + 1)) mx 47 v3) mx 48 ((I5 mx 48) &&& r4)) mx 49 ((I5 mx 49) ||| r4)), L, ab_RR, n, nc, ns) res)) ∧ (r6 = 0 → (ab_E w (d + 1) mt_M_tellFits 30 [.ref mx, .int v1, .int v2, .int (v3 + (-1)), .null] [] (I5, L, ab_RR, n, nc, ns) res))))))) : ab_E w (d + 1) mt_M_tellFits 30 [.ref mx, .int v1, .int v2, .int v3, .null] [] (I, L, ab_RR, n, nc, ns) res := by
  refine ab_iload_n (i := 3) d_M_tellFits_30 rfl rfl ?_
  refine ab_if_le (tgt := 105) d_M_tellFits_31 (by decide) (fun c1 => ?_) (fun c1 => ?_)
  · have h := h.1 c1
    refine ab_aload_n (i := 0) d_M_tellFits_105 rfl rfl ?_
    refine ab_getR (ci := 11) (k := 4) (j := mx_now) d_M_tellFits_106 v_1372 rfl (by decide) (by decide) rfl r_mx_4 ?_
    refine ab_bipush (v := 51) d_M_tellFits_109 rfl ?_
    refine ab_iload_n (i := 1) d_M_tellFits_111 rfl rfl ?_
    refine ab_iadd d_M_tellFits_112 ?_
    refine ab_iload_n (i := 2) d_M_tellFits_113 rfl rfl ?_
    have g2 := h.1; have h := h.2
    refine ab_iast d_M_tellFits_114 rfl rfl g2 ?_
    exact ab_vret d_M_tellFits_115 rfl h
  · have h := h.2 c1
    refine ab_aload_n (i := 0) d_M_tellFits_34 rfl rfl ?_
    refine ab_getR (ci := 11) (k := 4) (j := mx_now) d_M_tellFits_35 v_1372 rfl (by decide) (by decide) rfl r_mx_4 ?_
    refine ab_bipush (v := 51) d_M_tellFits_38 rfl ?_
    refine ab_iload_n (i := 1) d_M_tellFits_40 rfl rfl ?_
    refine ab_iadd d_M_tellFits_41 ?_
    refine ab_iload_n (i := 3) d_M_tellFits_42 rfl rfl ?_
    have g3 := h.1; have h := h.2
    refine ab_iast d_M_tellFits_43 rfl rfl g3 ?_
    refine ab_aload_n (i := 0) d_M_tellFits_44 rfl rfl ?_
    obtain ⟨r4, I5, hC, h⟩ := h
    refine ab_callV (me2 := mt_M_netNow) (b := mx) (as := []) (st := []) (rv := (some (.int r4))) (M2 := (I5, L, ab_RR, n, nc, ns)) d_M_tellFits_45 ce_M_netNow v_1639 v_1641 v_80 (by decide) rfl (Nat.le_of_ble_eq_true rfl) hC (Nat.le_refl _) (Nat.le_refl _) hc hs (fun j h9 => by cases h9) (fun _ _ => rfl) ?_
    show ab_E w (d + 1) mt_M_tellFits 48 [.ref mx, .int v1, .int v2, .int v3, .null] [.int r4] (I5, L, ab_RR, n, nc, ns) res
    refine ab_istore (i := 4) d_M_tellFits_48 (by decide) (Or.inr rfl) ?_
    refine ab_aload_n (i := 0) d_M_tellFits_50 rfl rfl ?_
    refine ab_iload (i := 4) d_M_tellFits_51 rfl ?_
    obtain ⟨r6, hC, h⟩ := h
    refine ab_callV (me2 := mt_M_isAsNoted) (b := mx) (as := [.int r4]) (st := []) (rv := (some (.int r6))) (M2 := (I5, L, ab_RR, n, nc, ns)) d_M_tellFits_53 ce_M_isAsNoted v_1968 v_1970 v_136 (by decide) rfl (Nat.le_of_ble_eq_true rfl) hC (Nat.le_refl _) (Nat.le_refl _) hc hs (fun j h9 => by cases h9) (fun _ _ => rfl) ?_
    show ab_E w (d + 1) mt_M_tellFits 56 [.ref mx, .int v1, .int v2, .int v3, .int r4] [.int r6] (I5, L, ab_RR, n, nc, ns) res
    refine ab_if_ne (tgt := 62) d_M_tellFits_56 (by decide) (fun c7 => ?_) (fun c7 => ?_)
    · have h := h.1 c7
      refine ab_aload_n (i := 0) d_M_tellFits_62 rfl rfl ?_
      refine ab_dupr d_M_tellFits_63 ?_
      refine ab_getI (ci := 11) (k := 46) d_M_tellFits_64 v_1414 rfl (by decide) (by decide) rfl ?_
      refine ab_iconst (v := 1) d_M_tellFits_67 rfl ?_
      refine ab_iadd d_M_tellFits_68 ?_
      refine ab_putI (ci := 11) (k := 46) d_M_tellFits_69 v_1414 rfl (by decide) (by decide) rfl (Or.inl rfl) rfl rfl ?_
      refine ab_aload_n (i := 0) d_M_tellFits_72 rfl rfl ?_
      refine ab_iload_n (i := 3) d_M_tellFits_73 rfl rfl ?_
      refine ab_putI (ci := 11) (k := 47) d_M_tellFits_74 v_1415 rfl (by decide) (by decide) rfl (Or.inl rfl) rfl rfl ?_
      refine ab_aload_n (i := 0) d_M_tellFits_77 rfl rfl ?_
      refine ab_dupr d_M_tellFits_78 ?_
      refine ab_getI (ci := 11) (k := 48) d_M_tellFits_79 v_1416 rfl (by decide) (by decide) rfl ?_
      refine ab_iload (i := 4) d_M_tellFits_82 rfl ?_
      refine ab_iand d_M_tellFits_84 ?_
      refine ab_putI (ci := 11) (k := 48) d_M_tellFits_85 v_1416 rfl (by decide) (by decide) rfl (Or.inl rfl) rfl rfl ?_
      refine ab_aload_n (i := 0) d_M_tellFits_88 rfl rfl ?_
      refine ab_dupr d_M_tellFits_89 ?_
      refine ab_getI (ci := 11) (k := 49) d_M_tellFits_90 v_1417 rfl (by decide) (by decide) rfl ?_
      refine ab_iload (i := 4) d_M_tellFits_93 rfl ?_
      refine ab_ior d_M_tellFits_95 ?_
      refine ab_putI (ci := 11) (k := 49) d_M_tellFits_96 v_1417 rfl (by decide) (by decide) rfl (Or.inl rfl) rfl rfl ?_
      refine ab_iinc (i := 3) (v := (v3 + (-1))) d_M_tellFits_99 rfl rfl (by decide) (Or.inr rfl) ?_
      refine ab_goto (tgt := 30) d_M_tellFits_102 (by decide) ?_
      refine ab_drop 4 ?_
      exact h
    · have h := h.2 c7
      refine ab_goto (tgt := 99) d_M_tellFits_59 (by decide) ?_
      refine ab_iinc (i := 3) (v := (v3 + (-1))) d_M_tellFits_99 rfl rfl (by decide) (Or.inr rfl) ?_
      refine ab_goto (tgt := 30) d_M_tellFits_102 (by decide) ?_
      refine ab_drop 4 ?_
      exact h
theorem r_M_fits_0 {w : ab_Wd} {d n nc ns : Nat} {I : Nat → Nat → Int32} {L : Nat → Nat → Int64} {res : ab_Re} (hT : w.1.stackTraces = false) (v1 : Int32) (v2 : Int32) (hc : nc ≤ res.2.2.2.2.2.1) (hs : ns ≤ res.2.2.2.2.2.2)
    (h : ((v1 < 0 → (res = (.inl (some (.int 0)), ((ab_up (ab_up I mx 1 0) mx 1 1), L, ab_RR, n, nc, ns)))) ∧ (¬ v1 < 0 → ((((I mx_now 0) - 1) < v1 → (res = (.inl (some (.int 0)), ((ab_up (ab_up I mx 1 0) mx 1 1), L, ab_RR, n, nc, ns)))) ∧ (¬ ((I mx_now 0) - 1) < v1 → ((v2 < 0 → (res = (.inl (some (.int 0)), ((ab_up (ab_up I mx 1 0) mx 1 1), L, ab_RR, n, nc, ns)))) ∧ (¬ v2 < 0 → ((1 < v2 → (res = (.inl (some (.int 0)), ((ab_up (ab_up I mx 1 0) mx 1 1), L, ab_RR, n, nc, ns)))) ∧ (¬ 1 < v2 → (((((I mx_now 1) >>> (v1 &&& 31)) &&& 1) = 1 → (∃ (I18 : Nat → Nat → Int32), ab_C w (d + 1) mt_M_tellFits [.ref mx, .int v1] ((ab_up I mx 1 0), L, ab_RR, n, nc, ns) (.inl none, (I18, L, ab_RR, n, nc, ns)) ∧ ((¬ v2 = 0 → (res = (.inl (some (.int (I18 mx 47))), (I18, L, ab_RR, n, nc, ns)))) ∧ (v2 = 0 → (res = (.inl (some (.int (I18 mx 46))), (I18, L, ab_RR, n, nc, ns))))))) ∧ (¬ (((I mx_now 1) >>> (v1 &&& 31)) &&& 1) = 1 → (res = (.inl (some (.int 0)), ((ab_up (ab_up I mx 1 0) mx 1 2), L, ab_RR, n, nc, ns)))))))))))))) : ab_E w (d + 2) mt_M_fits 0 [.ref mx, .int v1, .int v2] [] (I, L, ab_RR, n, nc, ns) res := by
  refine ab_aload_n (i := 0) d_M_fits_0 rfl rfl ?_
  refine ab_iconst (v := 0) d_M_fits_1 rfl ?_
  refine ab_putI (ci := 11) (k := 1) d_M_fits_2 v_1369 rfl (by decide) (by decide) rfl (Or.inl rfl) rfl rfl ?_
  refine ab_aload_n (i := 0) d_M_fits_5 rfl rfl ?_
  refine ab_iload_n (i := 1) d_M_fits_6 rfl rfl ?_
  by_cases c2 : v1 < 0
  · have h := h.1 c2
    refine ab_callV (me2 := mt_M_isCable) (b := mx) (as := [.int v1]) (st := []) (rv := (some (.int 0))) (M2 := ((ab_up I mx 1 0), L, ab_RR, n, nc, ns)) d_M_fits_7 ce_M_isCable v_1748 v_1750 v_105 (by decide) rfl (Nat.le_of_ble_eq_true rfl) (cx_M_isCable_0 v1 hT (show (vp_in 0 399) from by unfold vp_in; decide) c2) (Nat.le_refl _) (Nat.le_refl _) hc hs (fun j h9 => by cases h9) (fun _ _ => rfl) ?_
    show ab_E w (d + 2) mt_M_fits 10 [.ref mx, .int v1, .int v2] [.int 0] ((ab_up I mx 1 0), L, ab_RR, n, nc, ns) res
    refine ab_if_eq (tgt := 22) d_M_fits_10 (by decide) (fun _ => ?_) (fun c9 => absurd (show (0 : Int32) = 0 from by decide) c9)
    refine ab_aload_n (i := 0) d_M_fits_22 rfl rfl ?_
    refine ab_iconst (v := 1) d_M_fits_23 rfl ?_
    refine ab_callV (me2 := mt_M_fail) (b := mx) (as := [.int 1]) (st := []) (rv := (some (.int 0))) (M2 := ((ab_up (ab_up I mx 1 0) mx 1 1), L, ab_RR, n, nc, ns)) d_M_fits_24 ce_M_fail v_1562 v_1564 v_66 (by decide) rfl (Nat.le_of_ble_eq_true rfl) (cx_M_fail_0 1 hT) (Nat.le_refl _) (Nat.le_refl _) hc hs (fun j h9 => by cases h9) (fun _ _ => rfl) ?_
    show ab_E w (d + 2) mt_M_fits 27 [.ref mx, .int v1, .int v2] [.int 0] ((ab_up (ab_up I mx 1 0) mx 1 1), L, ab_RR, n, nc, ns) res
    exact ab_iret (ty := .int) d_M_fits_27 rfl rfl h
  · have h := h.2 c2
    by_cases c5 : ((I mx_now 0) - 1) < v1
    · have h := h.1 c5
      refine ab_callV (me2 := mt_M_isCable) (b := mx) (as := [.int v1]) (st := []) (rv := (some (.int 0))) (M2 := ((ab_up I mx 1 0), L, ab_RR, n, nc, ns)) d_M_fits_7 ce_M_isCable v_1748 v_1750 v_105 (by decide) rfl (Nat.le_of_ble_eq_true rfl) (cx_M_isCable_1 v1 hT (show (vp_in 0 399) from by unfold vp_in; decide) c2 c5) (Nat.le_refl _) (Nat.le_refl _) hc hs (fun j h9 => by cases h9) (fun _ _ => rfl) ?_
      show ab_E w (d + 2) mt_M_fits 10 [.ref mx, .int v1, .int v2] [.int 0] ((ab_up I mx 1 0), L, ab_RR, n, nc, ns) res
      refine ab_if_eq (tgt := 22) d_M_fits_10 (by decide) (fun _ => ?_) (fun c9 => absurd (show (0 : Int32) = 0 from by decide) c9)
      refine ab_aload_n (i := 0) d_M_fits_22 rfl rfl ?_
      refine ab_iconst (v := 1) d_M_fits_23 rfl ?_
      refine ab_callV (me2 := mt_M_fail) (b := mx) (as := [.int 1]) (st := []) (rv := (some (.int 0))) (M2 := ((ab_up (ab_up I mx 1 0) mx 1 1), L, ab_RR, n, nc, ns)) d_M_fits_24 ce_M_fail v_1562 v_1564 v_66 (by decide) rfl (Nat.le_of_ble_eq_true rfl) (cx_M_fail_0 1 hT) (Nat.le_refl _) (Nat.le_refl _) hc hs (fun j h9 => by cases h9) (fun _ _ => rfl) ?_
      show ab_E w (d + 2) mt_M_fits 27 [.ref mx, .int v1, .int v2] [.int 0] ((ab_up (ab_up I mx 1 0) mx 1 1), L, ab_RR, n, nc, ns) res
      exact ab_iret (ty := .int) d_M_fits_27 rfl rfl h
    · have h := h.2 c5
      refine ab_callV (me2 := mt_M_isCable) (b := mx) (as := [.int v1]) (st := []) (rv := (some (.int 1))) (M2 := ((ab_up I mx 1 0), L, ab_RR, n, nc, ns)) d_M_fits_7 ce_M_isCable v_1748 v_1750 v_105 (by decide) rfl (Nat.le_of_ble_eq_true rfl) (cx_M_isCable_2 v1 hT (show (vp_in 0 399) from by unfold vp_in; decide) c2 c5) (Nat.le_refl _) (Nat.le_refl _) hc hs (fun j h9 => by cases h9) (fun _ _ => rfl) ?_
      show ab_E w (d + 2) mt_M_fits 10 [.ref mx, .int v1, .int v2] [.int 1] ((ab_up I mx 1 0), L, ab_RR, n, nc, ns) res
      refine ab_if_eq (tgt := 22) d_M_fits_10 (by decide) (fun c9 => absurd c9 (show ¬ (1 : Int32) = 0 from by decide)) (fun _ => ?_)
      refine ab_iload_n (i := 2) d_M_fits_13 rfl rfl ?_
      refine ab_iconst (v := 0) d_M_fits_14 rfl ?_
      refine ab_iconst (v := 1) d_M_fits_15 rfl ?_
      by_cases c9 : v2 < 0
      · have h := h.1 c9
        refine ab_callS (me2 := mt_M_isIn) (as := [.int v2, .int 0, .int 1]) (st := []) (rv := (some (.int 0))) (M2 := ((ab_up I mx 1 0), L, ab_RR, n, nc, ns)) d_M_fits_16 ce_M_isIn ⟨v_1753, Or.inl v_1752⟩ (Nat.le_of_ble_eq_true rfl) (cx_M_isIn_0 v2 0 1 hT c9) (Nat.le_refl _) (Nat.le_refl _) hc hs (fun j h9 => by cases h9) (fun _ _ => rfl) ?_
        show ab_E w (d + 2) mt_M_fits 19 [.ref mx, .int v1, .int v2] [.int 0] ((ab_up I mx 1 0), L, ab_RR, n, nc, ns) res
        refine ab_if_ne (tgt := 28) d_M_fits_19 (by decide) (fun c9 => absurd (show (0 : Int32) = 0 from by decide) c9) (fun _ => ?_)
        refine ab_aload_n (i := 0) d_M_fits_22 rfl rfl ?_
        refine ab_iconst (v := 1) d_M_fits_23 rfl ?_
        refine ab_callV (me2 := mt_M_fail) (b := mx) (as := [.int 1]) (st := []) (rv := (some (.int 0))) (M2 := ((ab_up (ab_up I mx 1 0) mx 1 1), L, ab_RR, n, nc, ns)) d_M_fits_24 ce_M_fail v_1562 v_1564 v_66 (by decide) rfl (Nat.le_of_ble_eq_true rfl) (cx_M_fail_0 1 hT) (Nat.le_refl _) (Nat.le_refl _) hc hs (fun j h9 => by cases h9) (fun _ _ => rfl) ?_
        show ab_E w (d + 2) mt_M_fits 27 [.ref mx, .int v1, .int v2] [.int 0] ((ab_up (ab_up I mx 1 0) mx 1 1), L, ab_RR, n, nc, ns) res
        exact ab_iret (ty := .int) d_M_fits_27 rfl rfl h
      · have h := h.2 c9
        by_cases c12 : 1 < v2
        · have h := h.1 c12
          refine ab_callS (me2 := mt_M_isIn) (as := [.int v2, .int 0, .int 1]) (st := []) (rv := (some (.int 0))) (M2 := ((ab_up I mx 1 0), L, ab_RR, n, nc, ns)) d_M_fits_16 ce_M_isIn ⟨v_1753, Or.inl v_1752⟩ (Nat.le_of_ble_eq_true rfl) (cx_M_isIn_1 v2 0 1 hT c9 c12) (Nat.le_refl _) (Nat.le_refl _) hc hs (fun j h9 => by cases h9) (fun _ _ => rfl) ?_
          show ab_E w (d + 2) mt_M_fits 19 [.ref mx, .int v1, .int v2] [.int 0] ((ab_up I mx 1 0), L, ab_RR, n, nc, ns) res
          refine ab_if_ne (tgt := 28) d_M_fits_19 (by decide) (fun c9 => absurd (show (0 : Int32) = 0 from by decide) c9) (fun _ => ?_)
          refine ab_aload_n (i := 0) d_M_fits_22 rfl rfl ?_
          refine ab_iconst (v := 1) d_M_fits_23 rfl ?_
          refine ab_callV (me2 := mt_M_fail) (b := mx) (as := [.int 1]) (st := []) (rv := (some (.int 0))) (M2 := ((ab_up (ab_up I mx 1 0) mx 1 1), L, ab_RR, n, nc, ns)) d_M_fits_24 ce_M_fail v_1562 v_1564 v_66 (by decide) rfl (Nat.le_of_ble_eq_true rfl) (cx_M_fail_0 1 hT) (Nat.le_refl _) (Nat.le_refl _) hc hs (fun j h9 => by cases h9) (fun _ _ => rfl) ?_
          show ab_E w (d + 2) mt_M_fits 27 [.ref mx, .int v1, .int v2] [.int 0] ((ab_up (ab_up I mx 1 0) mx 1 1), L, ab_RR, n, nc, ns) res
          exact ab_iret (ty := .int) d_M_fits_27 rfl rfl h
        · have h := h.2 c12
          refine ab_callS (me2 := mt_M_isIn) (as := [.int v2, .int 0, .int 1]) (st := []) (rv := (some (.int 1))) (M2 := ((ab_up I mx 1 0), L, ab_RR, n, nc, ns)) d_M_fits_16 ce_M_isIn ⟨v_1753, Or.inl v_1752⟩ (Nat.le_of_ble_eq_true rfl) (cx_M_isIn_2 v2 0 1 hT c9 c12) (Nat.le_refl _) (Nat.le_refl _) hc hs (fun j h9 => by cases h9) (fun _ _ => rfl) ?_
          show ab_E w (d + 2) mt_M_fits 19 [.ref mx, .int v1, .int v2] [.int 1] ((ab_up I mx 1 0), L, ab_RR, n, nc, ns) res
          refine ab_if_ne (tgt := 28) d_M_fits_19 (by decide) (fun _ => ?_) (fun c9 => absurd c9 (show ¬ (1 : Int32) = 0 from by decide))
          refine ab_aload_n (i := 0) d_M_fits_28 rfl rfl ?_
          refine ab_iload_n (i := 1) d_M_fits_29 rfl rfl ?_
          by_cases c16 : (((I mx_now 1) >>> (v1 &&& 31)) &&& 1) = 1
          · have h := h.1 c16
            refine ab_callV (me2 := mt_M_isSound) (b := mx) (as := [.int v1]) (st := []) (rv := (some (.int 1))) (M2 := ((ab_up I mx 1 0), L, ab_RR, n, nc, ns)) d_M_fits_30 ce_M_isSound v_1679 v_1681 v_89 (by decide) rfl (Nat.le_of_ble_eq_true rfl) (cx_M_isSound_1 v1 hT (show (vp_in 1 399) from by unfold vp_in; decide) c16) (Nat.le_refl _) (Nat.le_refl _) hc hs (fun j h9 => by cases h9) (fun _ _ => rfl) ?_
            show ab_E w (d + 2) mt_M_fits 33 [.ref mx, .int v1, .int v2] [.int 1] ((ab_up I mx 1 0), L, ab_RR, n, nc, ns) res
            refine ab_if_ne (tgt := 42) d_M_fits_33 (by decide) (fun _ => ?_) (fun c9 => absurd c9 (show ¬ (1 : Int32) = 0 from by decide))
            refine ab_aload_n (i := 0) d_M_fits_42 rfl rfl ?_
            refine ab_iload_n (i := 1) d_M_fits_43 rfl rfl ?_
            obtain ⟨I18, hC, h⟩ := h
            refine ab_callV (me2 := mt_M_tellFits) (b := mx) (as := [.int v1]) (st := []) (rv := none) (M2 := (I18, L, ab_RR, n, nc, ns)) d_M_fits_44 ce_M_tellFits v_1964 v_1966 v_135 (by decide) rfl (Nat.le_of_ble_eq_true rfl) hC (Nat.le_refl _) (Nat.le_refl _) hc hs (fun j h9 => by cases h9) (fun _ _ => rfl) ?_
            show ab_E w (d + 2) mt_M_fits 47 [.ref mx, .int v1, .int v2] [] (I18, L, ab_RR, n, nc, ns) res
            refine ab_iload_n (i := 2) d_M_fits_47 rfl rfl ?_
            refine ab_if_ne (tgt := 58) d_M_fits_48 (by decide) (fun c19 => ?_) (fun c19 => ?_)
            · have h := h.1 c19
              refine ab_aload_n (i := 0) d_M_fits_58 rfl rfl ?_
              refine ab_getI (ci := 11) (k := 47) d_M_fits_59 v_1415 rfl (by decide) (by decide) rfl ?_
              exact ab_iret (ty := .int) d_M_fits_62 rfl rfl h
            · have h := h.2 c19
              refine ab_aload_n (i := 0) d_M_fits_51 rfl rfl ?_
              refine ab_getI (ci := 11) (k := 46) d_M_fits_52 v_1414 rfl (by decide) (by decide) rfl ?_
              refine ab_goto (tgt := 62) d_M_fits_55 (by decide) ?_
              exact ab_iret (ty := .int) d_M_fits_62 rfl rfl h
          · have h := h.2 c16
            refine ab_callV (me2 := mt_M_isSound) (b := mx) (as := [.int v1]) (st := []) (rv := (some (.int 0))) (M2 := ((ab_up I mx 1 0), L, ab_RR, n, nc, ns)) d_M_fits_30 ce_M_isSound v_1679 v_1681 v_89 (by decide) rfl (Nat.le_of_ble_eq_true rfl) (cx_M_isSound_0 v1 hT (show (vp_in 1 399) from by unfold vp_in; decide) c16) (Nat.le_refl _) (Nat.le_refl _) hc hs (fun j h9 => by cases h9) (fun _ _ => rfl) ?_
            show ab_E w (d + 2) mt_M_fits 33 [.ref mx, .int v1, .int v2] [.int 0] ((ab_up I mx 1 0), L, ab_RR, n, nc, ns) res
            refine ab_if_ne (tgt := 42) d_M_fits_33 (by decide) (fun c9 => absurd (show (0 : Int32) = 0 from by decide) c9) (fun _ => ?_)
            refine ab_aload_n (i := 0) d_M_fits_36 rfl rfl ?_
            refine ab_iconst (v := 2) d_M_fits_37 rfl ?_
            refine ab_callV (me2 := mt_M_fail) (b := mx) (as := [.int 2]) (st := []) (rv := (some (.int 0))) (M2 := ((ab_up (ab_up I mx 1 0) mx 1 2), L, ab_RR, n, nc, ns)) d_M_fits_38 ce_M_fail v_1562 v_1564 v_66 (by decide) rfl (Nat.le_of_ble_eq_true rfl) (cx_M_fail_0 2 hT) (Nat.le_refl _) (Nat.le_refl _) hc hs (fun j h9 => by cases h9) (fun _ _ => rfl) ?_
            show ab_E w (d + 2) mt_M_fits 41 [.ref mx, .int v1, .int v2] [.int 0] ((ab_up (ab_up I mx 1 0) mx 1 2), L, ab_RR, n, nc, ns) res
            exact ab_iret (ty := .int) d_M_fits_41 rfl rfl h
