theorem cx_K_refuse_0 {w : ab_Wd} {d n nc ns : Nat} {I : Nat → Nat → Int32} {L : Nat → Nat → Int64} (v1 : Int32) (hT : w.1.stackTraces = false) (e1 : (vp_in v1 3)) (e2 : (vp_in v1 3)) : ab_C w d mt_K_refuse [.ref kx, .int v1] (I, L, ab_RR, n, nc, ns) (.inl (some (.int (-1))), ((ab_up I kx_now_refused v1.toNatClampNeg ((I kx_now_refused v1.toNatClampNeg) + 1)), L, ab_RR, n, nc, ns)) := by
  refine ab_C_of (by decide) rfl (Nat.le_of_ble_eq_true rfl) hT ?_
  have hc := Nat.le_refl nc
  have hs := Nat.le_refl ns
  refine ab_aload_n (i := 0) d_K_refuse_0 rfl rfl ?_
  refine ab_getR (ci := 10) (k := 3) (j := kx_now) d_K_refuse_1 v_475 rfl (by decide) (by decide) rfl r_kx_3 ?_
  refine ab_getR (ci := 6) (k := 6) (j := kx_now_refused) d_K_refuse_4 v_306 rfl (by decide) (by decide) rfl r_kx_now_6 ?_
  refine ab_iload_n (i := 1) d_K_refuse_7 rfl rfl ?_
  refine ab_dup2 d_K_refuse_8 ?_
  refine ab_iald d_K_refuse_9 rfl rfl e1 ?_
  refine ab_iconst (v := 1) d_K_refuse_10 rfl ?_
  refine ab_iadd d_K_refuse_11 ?_
  refine ab_iast d_K_refuse_12 rfl rfl e2 ?_
  refine ab_iconst (v := (-1)) d_K_refuse_13 rfl ?_
  exact ab_iret (ty := .int) d_K_refuse_14 rfl rfl rfl
theorem cx_K_isPrice_0 {w : ab_Wd} {d n nc ns : Nat} {I : Nat → Nat → Int32} {L : Nat → Nat → Int64} (v0 : Int32) (hT : w.1.stackTraces = false) (e1 : v0 < 1) : ab_C w d mt_K_isPrice [.int v0] (I, L, ab_RR, n, nc, ns) (.inl (some (.int 0)), (I, L, ab_RR, n, nc, ns)) := by
  refine ab_C_of (by decide) rfl (Nat.le_of_ble_eq_true rfl) hT ?_
  have hc := Nat.le_refl nc
  have hs := Nat.le_refl ns
  refine ab_iload_n (i := 0) d_K_isPrice_0 rfl rfl ?_
  refine ab_iconst (v := 1) d_K_isPrice_1 rfl ?_
  refine ab_icmp_lt (tgt := 16) d_K_isPrice_2 (by decide) (fun _ => ?_) (fun c9 => absurd e1 c9)
  refine ab_iconst (v := 0) d_K_isPrice_16 rfl ?_
  exact ab_iret (ty := .boolean) d_K_isPrice_17 rfl rfl rfl
theorem cx_K_isPrice_1 {w : ab_Wd} {d n nc ns : Nat} {I : Nat → Nat → Int32} {L : Nat → Nat → Int64} (v0 : Int32) (hT : w.1.stackTraces = false) (e1 : ¬ v0 < 1) (e2 : 999 < v0) : ab_C w d mt_K_isPrice [.int v0] (I, L, ab_RR, n, nc, ns) (.inl (some (.int 0)), (I, L, ab_RR, n, nc, ns)) := by
  refine ab_C_of (by decide) rfl (Nat.le_of_ble_eq_true rfl) hT ?_
  have hc := Nat.le_refl nc
  have hs := Nat.le_refl ns
  refine ab_iload_n (i := 0) d_K_isPrice_0 rfl rfl ?_
  refine ab_iconst (v := 1) d_K_isPrice_1 rfl ?_
  refine ab_icmp_lt (tgt := 16) d_K_isPrice_2 (by decide) (fun c9 => absurd c9 e1) (fun _ => ?_)
  refine ab_iload_n (i := 0) d_K_isPrice_5 rfl rfl ?_
  refine ab_sipush (v := 999) d_K_isPrice_6 rfl ?_
  refine ab_icmp_gt (tgt := 16) d_K_isPrice_9 (by decide) (fun _ => ?_) (fun c9 => absurd e2 c9)
  refine ab_iconst (v := 0) d_K_isPrice_16 rfl ?_
  exact ab_iret (ty := .boolean) d_K_isPrice_17 rfl rfl rfl
theorem cx_K_isPrice_2 {w : ab_Wd} {d n nc ns : Nat} {I : Nat → Nat → Int32} {L : Nat → Nat → Int64} (v0 : Int32) (hT : w.1.stackTraces = false) (e1 : ¬ v0 < 1) (e2 : ¬ 999 < v0) : ab_C w d mt_K_isPrice [.int v0] (I, L, ab_RR, n, nc, ns) (.inl (some (.int 1)), (I, L, ab_RR, n, nc, ns)) := by
  refine ab_C_of (by decide) rfl (Nat.le_of_ble_eq_true rfl) hT ?_
  have hc := Nat.le_refl nc
  have hs := Nat.le_refl ns
  refine ab_iload_n (i := 0) d_K_isPrice_0 rfl rfl ?_
  refine ab_iconst (v := 1) d_K_isPrice_1 rfl ?_
  refine ab_icmp_lt (tgt := 16) d_K_isPrice_2 (by decide) (fun c9 => absurd c9 e1) (fun _ => ?_)
  refine ab_iload_n (i := 0) d_K_isPrice_5 rfl rfl ?_
  refine ab_sipush (v := 999) d_K_isPrice_6 rfl ?_
  refine ab_icmp_gt (tgt := 16) d_K_isPrice_9 (by decide) (fun c9 => absurd c9 e2) (fun _ => ?_)
  refine ab_iconst (v := 1) d_K_isPrice_12 rfl ?_
  refine ab_goto (tgt := 17) d_K_isPrice_13 (by decide) ?_
  exact ab_iret (ty := .boolean) d_K_isPrice_17 rfl rfl rfl
theorem r_K_price_0 {w : ab_Wd} {d n nc ns : Nat} {I : Nat → Nat → Int32} {L : Nat → Nat → Int64} {res : ab_Re} (hT : w.1.stackTraces = false) (v1 : Int32) (v2 : Int32) (hc : nc ≤ res.2.2.2.2.2.1) (hs : ns ≤ res.2.2.2.2.2.2)
    (h : ((v1 < 0 → (res = (.inl (some (.int (-1))), ((ab_up I kx_now_refused 1 ((I kx_now_refused 1) + 1)), L, ab_RR, n, nc, ns)))) ∧ (¬ v1 < 0 → (((I kx_now_cables 1) ≤ v1 → (res = (.inl (some (.int (-1))), ((ab_up I kx_now_refused 1 ((I kx_now_refused 1) + 1)), L, ab_RR, n, nc, ns)))) ∧ (¬ (I kx_now_cables 1) ≤ v1 → ((v2 < 1 → (res = (.inl (some (.int (-1))), ((ab_up I kx_now_refused 1 ((I kx_now_refused 1) + 1)), L, ab_RR, n, nc, ns)))) ∧ (¬ v2 < 1 → ((999 < v2 → (res = (.inl (some (.int (-1))), ((ab_up I kx_now_refused 1 ((I kx_now_refused 1) + 1)), L, ab_RR, n, nc, ns)))) ∧ (¬ 999 < v2 → ((vp_in v1 24) ∧ ((¬ (I kx_now_cables_price v1.toNatClampNeg) = v2 → (∃ (I18 : Nat → Nat → Int32), ab_C w d mt_State_keepAct [.ref kx_now] (I, L, ab_RR, n, nc, ns) (.inl none, (I18, L, ab_RR, n, nc, ns)) ∧ ∃ (I20 : Nat → Nat → Int32), ab_C w d mt_K_tellPrice [.ref kx, .int v1, .int v2] (I18, L, ab_RR, n, nc, ns) (.inl none, (I20, L, ab_RR, n, nc, ns)) ∧ ∃ (I22 : Nat → Nat → Int32), ab_C w d mt_Ways_trace [.ref kx_ways, .ref kx_now_cables, .ref kx_forest] (I20, L, ab_RR, n, nc, ns) (.inl none, (I22, L, ab_RR, n, nc, ns)) ∧ res = (.inl (some (.int (I kx_now_cables_price v1.toNatClampNeg))), (I22, L, ab_RR, n, nc, ns)))) ∧ ((I kx_now_cables_price v1.toNatClampNeg) = v2 → (res = (.inl (some (.int (-1))), ((ab_up I kx_now_refused 1 ((I kx_now_refused 1) + 1)), L, ab_RR, n, nc, ns))))))))))))))) : ab_E w (d + 1) mt_K_price 0 [.ref kx, .int v1, .int v2, .null, .null] [] (I, L, ab_RR, n, nc, ns) res := by
  refine ab_aload_n (i := 0) d_K_price_0 rfl rfl ?_
  refine ab_getR (ci := 10) (k := 3) (j := kx_now) d_K_price_1 v_475 rfl (by decide) (by decide) rfl r_kx_3 ?_
  refine ab_getR (ci := 6) (k := 0) (j := kx_now_cables) d_K_price_4 v_294 rfl (by decide) (by decide) rfl r_kx_now_0 ?_
  refine ab_astore_n (i := 3) d_K_price_7 rfl (by decide) (Or.inr rfl) ?_
  refine ab_aload_n (i := 3) d_K_price_8 rfl rfl ?_
  refine ab_iload_n (i := 1) d_K_price_9 rfl rfl ?_
  by_cases c2 : v1 < 0
  · have h := h.1 c2
    refine ab_callV (me2 := mt_Cables_has) (b := kx_now_cables) (as := [.int v1]) (st := []) (rv := (some (.int 0))) (M2 := (I, L, ab_RR, n, nc, ns)) d_K_price_10 ce_Cables_has v_567 v_568 v_569 (by decide) rfl (Nat.le_of_ble_eq_true rfl) (cx_Cables_has_0 v1 hT c2) (Nat.le_refl _) (Nat.le_refl _) hc hs (fun j h9 => by cases h9) (fun _ _ => rfl) ?_
    show ab_E w (d + 1) mt_K_price 13 [.ref kx, .int v1, .int v2, .ref kx_now_cables, .null] [.int 0] (I, L, ab_RR, n, nc, ns) res
    refine ab_if_eq (tgt := 33) d_K_price_13 (by decide) (fun _ => ?_) (fun c9 => absurd (show (0 : Int32) = 0 from by decide) c9)
    refine ab_aload_n (i := 0) d_K_price_33 rfl rfl ?_
    refine ab_iconst (v := 1) d_K_price_34 rfl ?_
    refine ab_callV (me2 := mt_K_refuse) (b := kx) (as := [.int 1]) (st := []) (rv := (some (.int (-1)))) (M2 := ((ab_up I kx_now_refused 1 ((I kx_now_refused 1) + 1)), L, ab_RR, n, nc, ns)) d_K_price_35 ce_K_refuse v_574 v_576 v_10 (by decide) rfl (Nat.le_of_ble_eq_true rfl) (cx_K_refuse_0 1 hT (show (vp_in 1 3) from by unfold vp_in; decide) (show (vp_in 1 3) from by unfold vp_in; decide)) (Nat.le_refl _) (Nat.le_refl _) hc hs (fun j h9 => by cases h9) (fun _ _ => rfl) ?_
    show ab_E w (d + 1) mt_K_price 38 [.ref kx, .int v1, .int v2, .ref kx_now_cables, .null] [.int (-1)] ((ab_up I kx_now_refused 1 ((I kx_now_refused 1) + 1)), L, ab_RR, n, nc, ns) res
    exact ab_iret (ty := .int) d_K_price_38 rfl rfl h
  · have h := h.2 c2
    by_cases c5 : (I kx_now_cables 1) ≤ v1
    · have h := h.1 c5
      refine ab_callV (me2 := mt_Cables_has) (b := kx_now_cables) (as := [.int v1]) (st := []) (rv := (some (.int 0))) (M2 := (I, L, ab_RR, n, nc, ns)) d_K_price_10 ce_Cables_has v_567 v_568 v_569 (by decide) rfl (Nat.le_of_ble_eq_true rfl) (cx_Cables_has_1 v1 hT c2 c5) (Nat.le_refl _) (Nat.le_refl _) hc hs (fun j h9 => by cases h9) (fun _ _ => rfl) ?_
      show ab_E w (d + 1) mt_K_price 13 [.ref kx, .int v1, .int v2, .ref kx_now_cables, .null] [.int 0] (I, L, ab_RR, n, nc, ns) res
      refine ab_if_eq (tgt := 33) d_K_price_13 (by decide) (fun _ => ?_) (fun c9 => absurd (show (0 : Int32) = 0 from by decide) c9)
      refine ab_aload_n (i := 0) d_K_price_33 rfl rfl ?_
      refine ab_iconst (v := 1) d_K_price_34 rfl ?_
      refine ab_callV (me2 := mt_K_refuse) (b := kx) (as := [.int 1]) (st := []) (rv := (some (.int (-1)))) (M2 := ((ab_up I kx_now_refused 1 ((I kx_now_refused 1) + 1)), L, ab_RR, n, nc, ns)) d_K_price_35 ce_K_refuse v_574 v_576 v_10 (by decide) rfl (Nat.le_of_ble_eq_true rfl) (cx_K_refuse_0 1 hT (show (vp_in 1 3) from by unfold vp_in; decide) (show (vp_in 1 3) from by unfold vp_in; decide)) (Nat.le_refl _) (Nat.le_refl _) hc hs (fun j h9 => by cases h9) (fun _ _ => rfl) ?_
      show ab_E w (d + 1) mt_K_price 38 [.ref kx, .int v1, .int v2, .ref kx_now_cables, .null] [.int (-1)] ((ab_up I kx_now_refused 1 ((I kx_now_refused 1) + 1)), L, ab_RR, n, nc, ns) res
      exact ab_iret (ty := .int) d_K_price_38 rfl rfl h
    · have h := h.2 c5
      refine ab_callV (me2 := mt_Cables_has) (b := kx_now_cables) (as := [.int v1]) (st := []) (rv := (some (.int 1))) (M2 := (I, L, ab_RR, n, nc, ns)) d_K_price_10 ce_Cables_has v_567 v_568 v_569 (by decide) rfl (Nat.le_of_ble_eq_true rfl) (cx_Cables_has_2 v1 hT c2 c5) (Nat.le_refl _) (Nat.le_refl _) hc hs (fun j h9 => by cases h9) (fun _ _ => rfl) ?_
      show ab_E w (d + 1) mt_K_price 13 [.ref kx, .int v1, .int v2, .ref kx_now_cables, .null] [.int 1] (I, L, ab_RR, n, nc, ns) res
      refine ab_if_eq (tgt := 33) d_K_price_13 (by decide) (fun c9 => absurd c9 (show ¬ (1 : Int32) = 0 from by decide)) (fun _ => ?_)
      refine ab_iload_n (i := 2) d_K_price_16 rfl rfl ?_
      by_cases c9 : v2 < 1
      · have h := h.1 c9
        refine ab_callS (me2 := mt_K_isPrice) (as := [.int v2]) (st := []) (rv := (some (.int 0))) (M2 := (I, L, ab_RR, n, nc, ns)) d_K_price_17 ce_K_isPrice ⟨v_572, Or.inl v_571⟩ (Nat.le_of_ble_eq_true rfl) (cx_K_isPrice_0 v2 hT c9) (Nat.le_refl _) (Nat.le_refl _) hc hs (fun j h9 => by cases h9) (fun _ _ => rfl) ?_
        show ab_E w (d + 1) mt_K_price 20 [.ref kx, .int v1, .int v2, .ref kx_now_cables, .null] [.int 0] (I, L, ab_RR, n, nc, ns) res
        refine ab_if_eq (tgt := 33) d_K_price_20 (by decide) (fun _ => ?_) (fun c9 => absurd (show (0 : Int32) = 0 from by decide) c9)
        refine ab_aload_n (i := 0) d_K_price_33 rfl rfl ?_
        refine ab_iconst (v := 1) d_K_price_34 rfl ?_
        refine ab_callV (me2 := mt_K_refuse) (b := kx) (as := [.int 1]) (st := []) (rv := (some (.int (-1)))) (M2 := ((ab_up I kx_now_refused 1 ((I kx_now_refused 1) + 1)), L, ab_RR, n, nc, ns)) d_K_price_35 ce_K_refuse v_574 v_576 v_10 (by decide) rfl (Nat.le_of_ble_eq_true rfl) (cx_K_refuse_0 1 hT (show (vp_in 1 3) from by unfold vp_in; decide) (show (vp_in 1 3) from by unfold vp_in; decide)) (Nat.le_refl _) (Nat.le_refl _) hc hs (fun j h9 => by cases h9) (fun _ _ => rfl) ?_
        show ab_E w (d + 1) mt_K_price 38 [.ref kx, .int v1, .int v2, .ref kx_now_cables, .null] [.int (-1)] ((ab_up I kx_now_refused 1 ((I kx_now_refused 1) + 1)), L, ab_RR, n, nc, ns) res
        exact ab_iret (ty := .int) d_K_price_38 rfl rfl h
      · have h := h.2 c9
        by_cases c12 : 999 < v2
        · have h := h.1 c12
          refine ab_callS (me2 := mt_K_isPrice) (as := [.int v2]) (st := []) (rv := (some (.int 0))) (M2 := (I, L, ab_RR, n, nc, ns)) d_K_price_17 ce_K_isPrice ⟨v_572, Or.inl v_571⟩ (Nat.le_of_ble_eq_true rfl) (cx_K_isPrice_1 v2 hT c9 c12) (Nat.le_refl _) (Nat.le_refl _) hc hs (fun j h9 => by cases h9) (fun _ _ => rfl) ?_
          show ab_E w (d + 1) mt_K_price 20 [.ref kx, .int v1, .int v2, .ref kx_now_cables, .null] [.int 0] (I, L, ab_RR, n, nc, ns) res
          refine ab_if_eq (tgt := 33) d_K_price_20 (by decide) (fun _ => ?_) (fun c9 => absurd (show (0 : Int32) = 0 from by decide) c9)
          refine ab_aload_n (i := 0) d_K_price_33 rfl rfl ?_
          refine ab_iconst (v := 1) d_K_price_34 rfl ?_
          refine ab_callV (me2 := mt_K_refuse) (b := kx) (as := [.int 1]) (st := []) (rv := (some (.int (-1)))) (M2 := ((ab_up I kx_now_refused 1 ((I kx_now_refused 1) + 1)), L, ab_RR, n, nc, ns)) d_K_price_35 ce_K_refuse v_574 v_576 v_10 (by decide) rfl (Nat.le_of_ble_eq_true rfl) (cx_K_refuse_0 1 hT (show (vp_in 1 3) from by unfold vp_in; decide) (show (vp_in 1 3) from by unfold vp_in; decide)) (Nat.le_refl _) (Nat.le_refl _) hc hs (fun j h9 => by cases h9) (fun _ _ => rfl) ?_
          show ab_E w (d + 1) mt_K_price 38 [.ref kx, .int v1, .int v2, .ref kx_now_cables, .null] [.int (-1)] ((ab_up I kx_now_refused 1 ((I kx_now_refused 1) + 1)), L, ab_RR, n, nc, ns) res
          exact ab_iret (ty := .int) d_K_price_38 rfl rfl h
        · have h := h.2 c12
          refine ab_callS (me2 := mt_K_isPrice) (as := [.int v2]) (st := []) (rv := (some (.int 1))) (M2 := (I, L, ab_RR, n, nc, ns)) d_K_price_17 ce_K_isPrice ⟨v_572, Or.inl v_571⟩ (Nat.le_of_ble_eq_true rfl) (cx_K_isPrice_2 v2 hT c9 c12) (Nat.le_refl _) (Nat.le_refl _) hc hs (fun j h9 => by cases h9) (fun _ _ => rfl) ?_
          show ab_E w (d + 1) mt_K_price 20 [.ref kx, .int v1, .int v2, .ref kx_now_cables, .null] [.int 1] (I, L, ab_RR, n, nc, ns) res
          refine ab_if_eq (tgt := 33) d_K_price_20 (by decide) (fun c9 => absurd c9 (show ¬ (1 : Int32) = 0 from by decide)) (fun _ => ?_)
          refine ab_aload_n (i := 3) d_K_price_23 rfl rfl ?_
          refine ab_getR (ci := 1) (k := 5) (j := kx_now_cables_price) d_K_price_24 v_224 rfl (by decide) (by decide) rfl r_kx_now_cables_5 ?_
          refine ab_iload_n (i := 1) d_K_price_27 rfl rfl ?_
          have g15 := h.1; have h := h.2
          refine ab_iald d_K_price_28 rfl rfl g15 ?_
          refine ab_iload_n (i := 2) d_K_price_29 rfl rfl ?_
          refine ab_icmp_ne (tgt := 39) d_K_price_30 (by decide) (fun c16 => ?_) (fun c16 => ?_)
          · have h := h.1 c16
            refine ab_aload_n (i := 3) d_K_price_39 rfl rfl ?_
            refine ab_getR (ci := 1) (k := 5) (j := kx_now_cables_price) d_K_price_40 v_224 rfl (by decide) (by decide) rfl r_kx_now_cables_5 ?_
            refine ab_iload_n (i := 1) d_K_price_43 rfl rfl ?_
            refine ab_iald d_K_price_44 rfl rfl g15 ?_
            refine ab_istore (i := 4) d_K_price_45 (by decide) (Or.inr rfl) ?_
            refine ab_aload_n (i := 0) d_K_price_47 rfl rfl ?_
            refine ab_getR (ci := 10) (k := 3) (j := kx_now) d_K_price_48 v_475 rfl (by decide) (by decide) rfl r_kx_3 ?_
            obtain ⟨I18, hC, h⟩ := h
            refine ab_callV (me2 := mt_State_keepAct) (b := kx_now) (as := []) (st := []) (rv := none) (M2 := (I18, L, ab_RR, n, nc, ns)) d_K_price_51 ce_State_keepAct v_578 v_579 v_580 (by decide) rfl (Nat.le_of_ble_eq_true rfl) hC (Nat.le_refl _) (Nat.le_refl _) hc hs (fun j h9 => by cases h9) (fun _ _ => rfl) ?_
            show ab_E w (d + 1) mt_K_price 54 [.ref kx, .int v1, .int v2, .ref kx_now_cables, .int (I kx_now_cables_price v1.toNatClampNeg)] [] (I18, L, ab_RR, n, nc, ns) res
            refine ab_aload_n (i := 0) d_K_price_54 rfl rfl ?_
            refine ab_iload_n (i := 1) d_K_price_55 rfl rfl ?_
            refine ab_iload_n (i := 2) d_K_price_56 rfl rfl ?_
            obtain ⟨I20, hC, h⟩ := h
            refine ab_callV (me2 := mt_K_tellPrice) (b := kx) (as := [.int v1, .int v2]) (st := []) (rv := none) (M2 := (I20, L, ab_RR, n, nc, ns)) d_K_price_57 ce_K_tellPrice v_587 v_589 v_11 (by decide) rfl (Nat.le_of_ble_eq_true rfl) hC (Nat.le_refl _) (Nat.le_refl _) hc hs (fun j h9 => by cases h9) (fun _ _ => rfl) ?_
            show ab_E w (d + 1) mt_K_price 60 [.ref kx, .int v1, .int v2, .ref kx_now_cables, .int (I kx_now_cables_price v1.toNatClampNeg)] [] (I20, L, ab_RR, n, nc, ns) res
            refine ab_aload_n (i := 0) d_K_price_60 rfl rfl ?_
            refine ab_getR (ci := 10) (k := 7) (j := kx_ways) d_K_price_61 v_479 rfl (by decide) (by decide) rfl r_kx_7 ?_
            refine ab_aload_n (i := 3) d_K_price_64 rfl rfl ?_
            refine ab_aload_n (i := 0) d_K_price_65 rfl rfl ?_
            refine ab_getR (ci := 10) (k := 6) (j := kx_forest) d_K_price_66 v_478 rfl (by decide) (by decide) rfl r_kx_6 ?_
            obtain ⟨I22, hC, h⟩ := h
            refine ab_callV (me2 := mt_Ways_trace) (b := kx_ways) (as := [.ref kx_now_cables, .ref kx_forest]) (st := []) (rv := none) (M2 := (I22, L, ab_RR, n, nc, ns)) d_K_price_69 ce_Ways_trace v_453 v_454 v_455 (by decide) rfl (Nat.le_of_ble_eq_true rfl) hC (Nat.le_refl _) (Nat.le_refl _) hc hs (fun j h9 => by cases h9) (fun _ _ => rfl) ?_
            show ab_E w (d + 1) mt_K_price 72 [.ref kx, .int v1, .int v2, .ref kx_now_cables, .int (I kx_now_cables_price v1.toNatClampNeg)] [] (I22, L, ab_RR, n, nc, ns) res
            refine ab_iload (i := 4) d_K_price_72 rfl ?_
            exact ab_iret (ty := .int) d_K_price_74 rfl rfl h
          · have h := h.2 c16
            refine ab_aload_n (i := 0) d_K_price_33 rfl rfl ?_
            refine ab_iconst (v := 1) d_K_price_34 rfl ?_
            refine ab_callV (me2 := mt_K_refuse) (b := kx) (as := [.int 1]) (st := []) (rv := (some (.int (-1)))) (M2 := ((ab_up I kx_now_refused 1 ((I kx_now_refused 1) + 1)), L, ab_RR, n, nc, ns)) d_K_price_35 ce_K_refuse v_574 v_576 v_10 (by decide) rfl (Nat.le_of_ble_eq_true rfl) (cx_K_refuse_0 1 hT (show (vp_in 1 3) from by unfold vp_in; decide) (show (vp_in 1 3) from by unfold vp_in; decide)) (Nat.le_refl _) (Nat.le_refl _) hc hs (fun j h9 => by cases h9) (fun _ _ => rfl) ?_
            show ab_E w (d + 1) mt_K_price 38 [.ref kx, .int v1, .int v2, .ref kx_now_cables, .null] [.int (-1)] ((ab_up I kx_now_refused 1 ((I kx_now_refused 1) + 1)), L, ab_RR, n, nc, ns) res
            exact ab_iret (ty := .int) d_K_price_38 rfl rfl h
theorem cx_K_asPrice_0 {w : ab_Wd} {d n nc ns : Nat} {I : Nat → Nat → Int32} {L : Nat → Nat → Int64} (v0 : Int32) (hT : w.1.stackTraces = false)  : ab_C w (d + 1) mt_K_asPrice [.int v0] (I, L, ab_RR, n, nc, ns) (.inl (some (.int (ab_max32 1 (ab_min32 999 v0)))), (I, L, ab_RR, n, nc, ns)) := by
  refine ab_C_of (by decide) rfl (Nat.le_of_ble_eq_true rfl) hT ?_
  have hc := Nat.le_refl nc
  have hs := Nat.le_refl ns
  refine ab_iconst (v := 1) d_K_asPrice_0 rfl ?_
  refine ab_sipush (v := 999) d_K_asPrice_1 rfl ?_
  refine ab_iload_n (i := 0) d_K_asPrice_4 rfl rfl ?_
  refine ab_min d_K_asPrice_5 v_447 v_448 v_150 v_449 (Nat.succ_le_succ (Nat.zero_le _)) (Nat.le_of_ble_eq_true rfl) hc hs ?_
  refine ab_max d_K_asPrice_8 v_450 v_451 v_150 v_452 (Nat.succ_le_succ (Nat.zero_le _)) (Nat.le_of_ble_eq_true rfl) hc hs ?_
  exact ab_iret (ty := .int) d_K_asPrice_11 rfl rfl rfl
theorem r_K_all_0 {w : ab_Wd} {d n nc ns : Nat} {I : Nat → Nat → Int32} {L : Nat → Nat → Int64} {res : ab_Re} (hT : w.1.stackTraces = false) (v1 : Int32) (v2 : Int32) (hc : nc ≤ res.2.2.2.2.2.1) (hs : ns ≤ res.2.2.2.2.2.2)
    (h : ((v1 < 0 → (res = (.inl (some (.int (-1))), ((ab_up I kx_now_refused 1 ((I kx_now_refused 1) + 1)), L, ab_RR, n, nc, ns)))) ∧ (¬ v1 < 0 → ((4 ≤ v1 → (res = (.inl (some (.int (-1))), ((ab_up I kx_now_refused 1 ((I kx_now_refused 1) + 1)), L, ab_RR, n, nc, ns)))) ∧ (¬ 4 ≤ v1 → ((v2 < (-50) → (res = (.inl (some (.int (-1))), ((ab_up I kx_now_refused 1 ((I kx_now_refused 1) + 1)), L, ab_RR, n, nc, ns)))) ∧ (¬ v2 < (-50) → ((100 < v2 → (res = (.inl (some (.int (-1))), ((ab_up I kx_now_refused 1 ((I kx_now_refused 1) + 1)), L, ab_RR, n, nc, ns)))) ∧ (¬ 100 < v2 → (∃ (r14 : Int32), ab_C w (d + 1) mt_Cables_ofFirm [.ref kx_now_cables, .int v1] (I, L, ab_RR, n, nc, ns) (.inl (some (.int r14)), (I, L, ab_RR, n, nc, ns)) ∧ ((¬ r14 = 0 → (∃ (I17 : Nat → Nat → Int32), ab_C w (d + 1) mt_State_keepAct [.ref kx_now] (I, L, ab_RR, n, nc, ns) (.inl none, (I17, L, ab_RR, n, nc, ns)) ∧ ab_E w (d + 2) mt_K_all 51 [.ref kx, .int v1, .int v2, .ref kx_now_cables, .int 0] [] (I17, L, ab_RR, n, nc, ns) res)) ∧ (r14 = 0 → (res = (.inl (some (.int (-1))), ((ab_up I kx_now_refused 1 ((I kx_now_refused 1) + 1)), L, ab_RR, n, nc, ns))))))))))))))) : ab_E w (d + 2) mt_K_all 0 [.ref kx, .int v1, .int v2, .null, .null] [] (I, L, ab_RR, n, nc, ns) res := by
  refine ab_aload_n (i := 0) d_K_all_0 rfl rfl ?_
  refine ab_getR (ci := 10) (k := 3) (j := kx_now) d_K_all_1 v_475 rfl (by decide) (by decide) rfl r_kx_3 ?_
  refine ab_getR (ci := 6) (k := 0) (j := kx_now_cables) d_K_all_4 v_294 rfl (by decide) (by decide) rfl r_kx_now_0 ?_
  refine ab_astore_n (i := 3) d_K_all_7 rfl (by decide) (Or.inr rfl) ?_
  refine ab_iload_n (i := 1) d_K_all_8 rfl rfl ?_
  by_cases c2 : v1 < 0
  · have h := h.1 c2
    refine ab_callS (me2 := mt_K_isFirm) (as := [.int v1]) (st := []) (rv := (some (.int 0))) (M2 := (I, L, ab_RR, n, nc, ns)) d_K_all_9 ce_K_isFirm ⟨v_611, Or.inl v_610⟩ (Nat.le_of_ble_eq_true rfl) (cx_K_isFirm_0 v1 hT c2) (Nat.le_refl _) (Nat.le_refl _) hc hs (fun j h9 => by cases h9) (fun _ _ => rfl) ?_
    show ab_E w (d + 2) mt_K_all 12 [.ref kx, .int v1, .int v2, .ref kx_now_cables, .null] [.int 0] (I, L, ab_RR, n, nc, ns) res
    refine ab_if_eq (tgt := 35) d_K_all_12 (by decide) (fun _ => ?_) (fun c9 => absurd (show (0 : Int32) = 0 from by decide) c9)
    refine ab_aload_n (i := 0) d_K_all_35 rfl rfl ?_
    refine ab_iconst (v := 1) d_K_all_36 rfl ?_
    refine ab_callV (me2 := mt_K_refuse) (b := kx) (as := [.int 1]) (st := []) (rv := (some (.int (-1)))) (M2 := ((ab_up I kx_now_refused 1 ((I kx_now_refused 1) + 1)), L, ab_RR, n, nc, ns)) d_K_all_37 ce_K_refuse v_574 v_576 v_10 (by decide) rfl (Nat.le_of_ble_eq_true rfl) (cx_K_refuse_0 1 hT (show (vp_in 1 3) from by unfold vp_in; decide) (show (vp_in 1 3) from by unfold vp_in; decide)) (Nat.le_refl _) (Nat.le_refl _) hc hs (fun j h9 => by cases h9) (fun _ _ => rfl) ?_
    show ab_E w (d + 2) mt_K_all 40 [.ref kx, .int v1, .int v2, .ref kx_now_cables, .null] [.int (-1)] ((ab_up I kx_now_refused 1 ((I kx_now_refused 1) + 1)), L, ab_RR, n, nc, ns) res
    exact ab_iret (ty := .int) d_K_all_40 rfl rfl h
  · have h := h.2 c2
    by_cases c5 : 4 ≤ v1
    · have h := h.1 c5
      refine ab_callS (me2 := mt_K_isFirm) (as := [.int v1]) (st := []) (rv := (some (.int 0))) (M2 := (I, L, ab_RR, n, nc, ns)) d_K_all_9 ce_K_isFirm ⟨v_611, Or.inl v_610⟩ (Nat.le_of_ble_eq_true rfl) (cx_K_isFirm_1 v1 hT c2 c5) (Nat.le_refl _) (Nat.le_refl _) hc hs (fun j h9 => by cases h9) (fun _ _ => rfl) ?_
      show ab_E w (d + 2) mt_K_all 12 [.ref kx, .int v1, .int v2, .ref kx_now_cables, .null] [.int 0] (I, L, ab_RR, n, nc, ns) res
      refine ab_if_eq (tgt := 35) d_K_all_12 (by decide) (fun _ => ?_) (fun c9 => absurd (show (0 : Int32) = 0 from by decide) c9)
      refine ab_aload_n (i := 0) d_K_all_35 rfl rfl ?_
      refine ab_iconst (v := 1) d_K_all_36 rfl ?_
      refine ab_callV (me2 := mt_K_refuse) (b := kx) (as := [.int 1]) (st := []) (rv := (some (.int (-1)))) (M2 := ((ab_up I kx_now_refused 1 ((I kx_now_refused 1) + 1)), L, ab_RR, n, nc, ns)) d_K_all_37 ce_K_refuse v_574 v_576 v_10 (by decide) rfl (Nat.le_of_ble_eq_true rfl) (cx_K_refuse_0 1 hT (show (vp_in 1 3) from by unfold vp_in; decide) (show (vp_in 1 3) from by unfold vp_in; decide)) (Nat.le_refl _) (Nat.le_refl _) hc hs (fun j h9 => by cases h9) (fun _ _ => rfl) ?_
      show ab_E w (d + 2) mt_K_all 40 [.ref kx, .int v1, .int v2, .ref kx_now_cables, .null] [.int (-1)] ((ab_up I kx_now_refused 1 ((I kx_now_refused 1) + 1)), L, ab_RR, n, nc, ns) res
      exact ab_iret (ty := .int) d_K_all_40 rfl rfl h
    · have h := h.2 c5
      refine ab_callS (me2 := mt_K_isFirm) (as := [.int v1]) (st := []) (rv := (some (.int 1))) (M2 := (I, L, ab_RR, n, nc, ns)) d_K_all_9 ce_K_isFirm ⟨v_611, Or.inl v_610⟩ (Nat.le_of_ble_eq_true rfl) (cx_K_isFirm_2 v1 hT c2 c5) (Nat.le_refl _) (Nat.le_refl _) hc hs (fun j h9 => by cases h9) (fun _ _ => rfl) ?_
      show ab_E w (d + 2) mt_K_all 12 [.ref kx, .int v1, .int v2, .ref kx_now_cables, .null] [.int 1] (I, L, ab_RR, n, nc, ns) res
      refine ab_if_eq (tgt := 35) d_K_all_12 (by decide) (fun c9 => absurd c9 (show ¬ (1 : Int32) = 0 from by decide)) (fun _ => ?_)
      refine ab_iload_n (i := 2) d_K_all_15 rfl rfl ?_
      refine ab_bipush (v := (-50)) d_K_all_16 rfl ?_
      refine ab_icmp_lt (tgt := 35) d_K_all_18 (by decide) (fun c8 => ?_) (fun c8 => ?_)
      · have h := h.1 c8
        refine ab_aload_n (i := 0) d_K_all_35 rfl rfl ?_
        refine ab_iconst (v := 1) d_K_all_36 rfl ?_
        refine ab_callV (me2 := mt_K_refuse) (b := kx) (as := [.int 1]) (st := []) (rv := (some (.int (-1)))) (M2 := ((ab_up I kx_now_refused 1 ((I kx_now_refused 1) + 1)), L, ab_RR, n, nc, ns)) d_K_all_37 ce_K_refuse v_574 v_576 v_10 (by decide) rfl (Nat.le_of_ble_eq_true rfl) (cx_K_refuse_0 1 hT (show (vp_in 1 3) from by unfold vp_in; decide) (show (vp_in 1 3) from by unfold vp_in; decide)) (Nat.le_refl _) (Nat.le_refl _) hc hs (fun j h9 => by cases h9) (fun _ _ => rfl) ?_
        show ab_E w (d + 2) mt_K_all 40 [.ref kx, .int v1, .int v2, .ref kx_now_cables, .null] [.int (-1)] ((ab_up I kx_now_refused 1 ((I kx_now_refused 1) + 1)), L, ab_RR, n, nc, ns) res
        exact ab_iret (ty := .int) d_K_all_40 rfl rfl h
      · have h := h.2 c8
        refine ab_iload_n (i := 2) d_K_all_21 rfl rfl ?_
        refine ab_bipush (v := 100) d_K_all_22 rfl ?_
        refine ab_icmp_gt (tgt := 35) d_K_all_24 (by decide) (fun c11 => ?_) (fun c11 => ?_)
        · have h := h.1 c11
          refine ab_aload_n (i := 0) d_K_all_35 rfl rfl ?_
          refine ab_iconst (v := 1) d_K_all_36 rfl ?_
          refine ab_callV (me2 := mt_K_refuse) (b := kx) (as := [.int 1]) (st := []) (rv := (some (.int (-1)))) (M2 := ((ab_up I kx_now_refused 1 ((I kx_now_refused 1) + 1)), L, ab_RR, n, nc, ns)) d_K_all_37 ce_K_refuse v_574 v_576 v_10 (by decide) rfl (Nat.le_of_ble_eq_true rfl) (cx_K_refuse_0 1 hT (show (vp_in 1 3) from by unfold vp_in; decide) (show (vp_in 1 3) from by unfold vp_in; decide)) (Nat.le_refl _) (Nat.le_refl _) hc hs (fun j h9 => by cases h9) (fun _ _ => rfl) ?_
          show ab_E w (d + 2) mt_K_all 40 [.ref kx, .int v1, .int v2, .ref kx_now_cables, .null] [.int (-1)] ((ab_up I kx_now_refused 1 ((I kx_now_refused 1) + 1)), L, ab_RR, n, nc, ns) res
          exact ab_iret (ty := .int) d_K_all_40 rfl rfl h
        · have h := h.2 c11
          refine ab_aload_n (i := 3) d_K_all_27 rfl rfl ?_
          refine ab_iload_n (i := 1) d_K_all_28 rfl rfl ?_
          obtain ⟨r14, hC, h⟩ := h
          refine ab_callV (me2 := mt_Cables_ofFirm) (b := kx_now_cables) (as := [.int v1]) (st := []) (rv := (some (.int r14))) (M2 := (I, L, ab_RR, n, nc, ns)) d_K_all_29 ce_Cables_ofFirm v_613 v_614 v_615 (by decide) rfl (Nat.le_of_ble_eq_true rfl) hC (Nat.le_refl _) (Nat.le_refl _) hc hs (fun j h9 => by cases h9) (fun _ _ => rfl) ?_
          show ab_E w (d + 2) mt_K_all 32 [.ref kx, .int v1, .int v2, .ref kx_now_cables, .null] [.int r14] (I, L, ab_RR, n, nc, ns) res
          refine ab_if_ne (tgt := 41) d_K_all_32 (by decide) (fun c15 => ?_) (fun c15 => ?_)
          · have h := h.1 c15
            refine ab_aload_n (i := 0) d_K_all_41 rfl rfl ?_
            refine ab_getR (ci := 10) (k := 3) (j := kx_now) d_K_all_42 v_475 rfl (by decide) (by decide) rfl r_kx_3 ?_
            obtain ⟨I17, hC, h⟩ := h
            refine ab_callV (me2 := mt_State_keepAct) (b := kx_now) (as := []) (st := []) (rv := none) (M2 := (I17, L, ab_RR, n, nc, ns)) d_K_all_45 ce_State_keepAct v_578 v_579 v_580 (by decide) rfl (Nat.le_of_ble_eq_true rfl) hC (Nat.le_refl _) (Nat.le_refl _) hc hs (fun j h9 => by cases h9) (fun _ _ => rfl) ?_
            show ab_E w (d + 2) mt_K_all 48 [.ref kx, .int v1, .int v2, .ref kx_now_cables, .null] [] (I17, L, ab_RR, n, nc, ns) res
            refine ab_iconst (v := 0) d_K_all_48 rfl ?_
            refine ab_istore (i := 4) d_K_all_49 (by decide) (Or.inr rfl) ?_
            exact h
          · have h := h.2 c15
            refine ab_aload_n (i := 0) d_K_all_35 rfl rfl ?_
            refine ab_iconst (v := 1) d_K_all_36 rfl ?_
            refine ab_callV (me2 := mt_K_refuse) (b := kx) (as := [.int 1]) (st := []) (rv := (some (.int (-1)))) (M2 := ((ab_up I kx_now_refused 1 ((I kx_now_refused 1) + 1)), L, ab_RR, n, nc, ns)) d_K_all_37 ce_K_refuse v_574 v_576 v_10 (by decide) rfl (Nat.le_of_ble_eq_true rfl) (cx_K_refuse_0 1 hT (show (vp_in 1 3) from by unfold vp_in; decide) (show (vp_in 1 3) from by unfold vp_in; decide)) (Nat.le_refl _) (Nat.le_refl _) hc hs (fun j h9 => by cases h9) (fun _ _ => rfl) ?_
            show ab_E w (d + 2) mt_K_all 40 [.ref kx, .int v1, .int v2, .ref kx_now_cables, .null] [.int (-1)] ((ab_up I kx_now_refused 1 ((I kx_now_refused 1) + 1)), L, ab_RR, n, nc, ns) res
            exact ab_iret (ty := .int) d_K_all_40 rfl rfl h
theorem r_K_all_51 {w : ab_Wd} {d n nc ns : Nat} {I : Nat → Nat → Int32} {L : Nat → Nat → Int64} {res : ab_Re} (hT : w.1.stackTraces = false) (v1 : Int32) (v2 : Int32) (v4 : Int32) (hc : nc ≤ res.2.2.2.2.2.1) (hs : ns ≤ res.2.2.2.2.2.2)
    (h : (((I kx_now_cables 1) ≤ v4 → (∃ (I3 : Nat → Nat → Int32), ab_C w (d + 1) mt_Ways_trace [.ref kx_ways, .ref kx_now_cables, .ref kx_forest] (I, L, ab_RR, n, nc, ns) (.inl none, (I3, L, ab_RR, n, nc, ns)) ∧ res = (.inl (some (.int (I3 kx_forest 3))), (I3, L, ab_RR, n, nc, ns)))) ∧ (¬ (I kx_now_cables 1) ≤ v4 → ((vp_in v4 24) ∧ ((¬ (I kx_now_cables_firm v4.toNatClampNeg) = v1 → (ab_E w (d + 2) mt_K_all 51 [.ref kx, .int v1, .int v2, .ref kx_now_cables, .int (v4 + 1)] [] (I, L, ab_RR, n, nc, ns) res)) ∧ ((I kx_now_cables_firm v4.toNatClampNeg) = v1 → (∃ (I8 : Nat → Nat → Int32), ab_C w (d + 1) mt_K_tellPrice [.ref kx, .int v4, .int (ab_max32 1 (ab_min32 999 (((I kx_now_cables_price v4.toNatClampNeg) * (100 + v2)) / 100)))] (I, L, ab_RR, n, nc, ns) (.inl none, (I8, L, ab_RR, n, nc, ns)) ∧ ab_E w (d + 2) mt_K_all 51 [.ref kx, .int v1, .int v2, .ref kx_now_cables, .int (v4 + 1)] [] (I8, L, ab_RR, n, nc, ns) res))))))) : ab_E w (d + 2) mt_K_all 51 [.ref kx, .int v1, .int v2, .ref kx_now_cables, .int v4] [] (I, L, ab_RR, n, nc, ns) res := by
  refine ab_iload (i := 4) d_K_all_51 rfl ?_
  refine ab_aload_n (i := 3) d_K_all_53 rfl rfl ?_
  refine ab_getI (ci := 1) (k := 1) d_K_all_54 v_199 rfl (by decide) (by decide) rfl ?_
  refine ab_icmp_ge (tgt := 101) d_K_all_57 (by decide) (fun c1 => ?_) (fun c1 => ?_)
  · have h := h.1 c1
    refine ab_aload_n (i := 0) d_K_all_101 rfl rfl ?_
    refine ab_getR (ci := 10) (k := 7) (j := kx_ways) d_K_all_102 v_479 rfl (by decide) (by decide) rfl r_kx_7 ?_
    refine ab_aload_n (i := 3) d_K_all_105 rfl rfl ?_
    refine ab_aload_n (i := 0) d_K_all_106 rfl rfl ?_
    refine ab_getR (ci := 10) (k := 6) (j := kx_forest) d_K_all_107 v_478 rfl (by decide) (by decide) rfl r_kx_6 ?_
    obtain ⟨I3, hC, h⟩ := h
    refine ab_callV (me2 := mt_Ways_trace) (b := kx_ways) (as := [.ref kx_now_cables, .ref kx_forest]) (st := []) (rv := none) (M2 := (I3, L, ab_RR, n, nc, ns)) d_K_all_110 ce_Ways_trace v_453 v_454 v_455 (by decide) rfl (Nat.le_of_ble_eq_true rfl) hC (Nat.le_refl _) (Nat.le_refl _) hc hs (fun j h9 => by cases h9) (fun _ _ => rfl) ?_
    show ab_E w (d + 2) mt_K_all 113 [.ref kx, .int v1, .int v2, .ref kx_now_cables, .int v4] [] (I3, L, ab_RR, n, nc, ns) res
    refine ab_aload_n (i := 0) d_K_all_113 rfl rfl ?_
    refine ab_getR (ci := 10) (k := 6) (j := kx_forest) d_K_all_114 v_478 rfl (by decide) (by decide) rfl r_kx_6 ?_
    refine ab_getI (ci := 2) (k := 3) d_K_all_117 v_337 rfl (by decide) (by decide) rfl ?_
    exact ab_iret (ty := .int) d_K_all_120 rfl rfl h
  · have h := h.2 c1
    refine ab_aload_n (i := 3) d_K_all_60 rfl rfl ?_
    refine ab_getR (ci := 1) (k := 6) (j := kx_now_cables_firm) d_K_all_61 v_228 rfl (by decide) (by decide) rfl r_kx_now_cables_6 ?_
    refine ab_iload (i := 4) d_K_all_64 rfl ?_
    have g4 := h.1; have h := h.2
    refine ab_iald d_K_all_66 rfl rfl g4 ?_
    refine ab_iload_n (i := 1) d_K_all_67 rfl rfl ?_
    refine ab_icmp_ne (tgt := 95) d_K_all_68 (by decide) (fun c5 => ?_) (fun c5 => ?_)
    · have h := h.1 c5
      refine ab_iinc (i := 4) (v := (v4 + 1)) d_K_all_95 rfl rfl (by decide) (Or.inr rfl) ?_
      refine ab_goto (tgt := 51) d_K_all_98 (by decide) ?_
      exact h
    · have h := h.2 c5
      refine ab_aload_n (i := 0) d_K_all_71 rfl rfl ?_
      refine ab_iload (i := 4) d_K_all_72 rfl ?_
      refine ab_aload_n (i := 3) d_K_all_74 rfl rfl ?_
      refine ab_getR (ci := 1) (k := 5) (j := kx_now_cables_price) d_K_all_75 v_224 rfl (by decide) (by decide) rfl r_kx_now_cables_5 ?_
      refine ab_iload (i := 4) d_K_all_78 rfl ?_
      refine ab_iald d_K_all_80 rfl rfl g4 ?_
      refine ab_bipush (v := 100) d_K_all_81 rfl ?_
      refine ab_iload_n (i := 2) d_K_all_83 rfl rfl ?_
      refine ab_iadd d_K_all_84 ?_
      refine ab_imul d_K_all_85 ?_
      refine ab_bipush (v := 100) d_K_all_86 rfl ?_
      refine ab_idiv d_K_all_88 (by decide) ?_
      refine ab_callS (me2 := mt_K_asPrice) (as := [.int (((I kx_now_cables_price v4.toNatClampNeg) * (100 + v2)) / 100)]) (st := [.int v4, .ref kx]) (rv := (some (.int (ab_max32 1 (ab_min32 999 (((I kx_now_cables_price v4.toNatClampNeg) * (100 + v2)) / 100)))))) (M2 := (I, L, ab_RR, n, nc, ns)) d_K_all_89 ce_K_asPrice ⟨v_618, Or.inl v_617⟩ (Nat.le_of_ble_eq_true rfl) (cx_K_asPrice_0 (((I kx_now_cables_price v4.toNatClampNeg) * (100 + v2)) / 100) hT) (Nat.le_refl _) (Nat.le_refl _) hc hs (fun j h9 => by cases h9) (fun _ _ => rfl) ?_
      show ab_E w (d + 2) mt_K_all 92 [.ref kx, .int v1, .int v2, .ref kx_now_cables, .int v4] [.int (ab_max32 1 (ab_min32 999 (((I kx_now_cables_price v4.toNatClampNeg) * (100 + v2)) / 100))), .int v4, .ref kx] (I, L, ab_RR, n, nc, ns) res
      obtain ⟨I8, hC, h⟩ := h
      refine ab_callV (me2 := mt_K_tellPrice) (b := kx) (as := [.int v4, .int (ab_max32 1 (ab_min32 999 (((I kx_now_cables_price v4.toNatClampNeg) * (100 + v2)) / 100)))]) (st := []) (rv := none) (M2 := (I8, L, ab_RR, n, nc, ns)) d_K_all_92 ce_K_tellPrice v_587 v_589 v_11 (by decide) rfl (Nat.le_of_ble_eq_true rfl) hC (Nat.le_refl _) (Nat.le_refl _) hc hs (fun j h9 => by cases h9) (fun _ _ => rfl) ?_
      show ab_E w (d + 2) mt_K_all 95 [.ref kx, .int v1, .int v2, .ref kx_now_cables, .int v4] [] (I8, L, ab_RR, n, nc, ns) res
      refine ab_iinc (i := 4) (v := (v4 + 1)) d_K_all_95 rfl rfl (by decide) (Or.inr rfl) ?_
      refine ab_goto (tgt := 51) d_K_all_98 (by decide) ?_
      exact h
theorem r_K_breaks_0 {w : ab_Wd} {d n nc ns : Nat} {I : Nat → Nat → Int32} {L : Nat → Nat → Int64} {res : ab_Re} (hT : w.1.stackTraces = false) (v1 : Int32) (hc : nc ≤ res.2.2.2.2.2.1) (hs : ns ≤ res.2.2.2.2.2.2)
    (h : ((v1 < 0 → (res = (.inl (some (.int (-1))), ((ab_up I kx_now_refused 1 ((I kx_now_refused 1) + 1)), L, ab_RR, n, nc, ns)))) ∧ (¬ v1 < 0 → (((I kx_now_cables 1) ≤ v1 → (res = (.inl (some (.int (-1))), ((ab_up I kx_now_refused 1 ((I kx_now_refused 1) + 1)), L, ab_RR, n, nc, ns)))) ∧ (¬ (I kx_now_cables 1) ≤ v1 → (((((I kx_now_cables 2) >>> (v1 &&& 31)) &&& 1) = 1 → (∃ (I11 : Nat → Nat → Int32), ab_C w d mt_State_keepAct [.ref kx_now] (I, L, ab_RR, n, nc, ns) (.inl none, (I11, L, ab_RR, n, nc, ns)) ∧ ∃ (I13 : Nat → Nat → Int32), ab_C w d mt_K_regrow [.ref kx, .int 3, .int v1] ((ab_up I11 kx_now_cables 2 ((I11 kx_now_cables 2) &&& (((1 : Int32) <<< (v1 &&& 31)) ^^^ (-1)))), L, ab_RR, n, nc, ns) (.inl none, (I13, L, ab_RR, n, nc, ns)) ∧ ∃ (I15 : Nat → Nat → Int32), ab_C w d mt_Ways_trace [.ref kx_ways, .ref kx_now_cables, .ref kx_forest] (I13, L, ab_RR, n, nc, ns) (.inl none, (I15, L, ab_RR, n, nc, ns)) ∧ res = (.inl (some (.int (I15 kx_forest 4))), (I15, L, ab_RR, n, nc, ns)))) ∧ (¬ (((I kx_now_cables 2) >>> (v1 &&& 31)) &&& 1) = 1 → (res = (.inl (some (.int (-1))), ((ab_up I kx_now_refused 1 ((I kx_now_refused 1) + 1)), L, ab_RR, n, nc, ns)))))))))) : ab_E w (d + 1) mt_K_breaks 0 [.ref kx, .int v1, .null] [] (I, L, ab_RR, n, nc, ns) res := by
  refine ab_aload_n (i := 0) d_K_breaks_0 rfl rfl ?_
  refine ab_getR (ci := 10) (k := 3) (j := kx_now) d_K_breaks_1 v_475 rfl (by decide) (by decide) rfl r_kx_3 ?_
  refine ab_getR (ci := 6) (k := 0) (j := kx_now_cables) d_K_breaks_4 v_294 rfl (by decide) (by decide) rfl r_kx_now_0 ?_
  refine ab_astore_n (i := 2) d_K_breaks_7 rfl (by decide) (Or.inr rfl) ?_
  refine ab_aload_n (i := 2) d_K_breaks_8 rfl rfl ?_
  refine ab_iload_n (i := 1) d_K_breaks_9 rfl rfl ?_
  by_cases c2 : v1 < 0
  · have h := h.1 c2
    refine ab_callV (me2 := mt_Cables_has) (b := kx_now_cables) (as := [.int v1]) (st := []) (rv := (some (.int 0))) (M2 := (I, L, ab_RR, n, nc, ns)) d_K_breaks_10 ce_Cables_has v_567 v_568 v_569 (by decide) rfl (Nat.le_of_ble_eq_true rfl) (cx_Cables_has_0 v1 hT c2) (Nat.le_refl _) (Nat.le_refl _) hc hs (fun j h9 => by cases h9) (fun _ _ => rfl) ?_
    show ab_E w (d + 1) mt_K_breaks 13 [.ref kx, .int v1, .ref kx_now_cables] [.int 0] (I, L, ab_RR, n, nc, ns) res
    refine ab_if_eq (tgt := 24) d_K_breaks_13 (by decide) (fun _ => ?_) (fun c9 => absurd (show (0 : Int32) = 0 from by decide) c9)
    refine ab_aload_n (i := 0) d_K_breaks_24 rfl rfl ?_
    refine ab_iconst (v := 1) d_K_breaks_25 rfl ?_
    refine ab_callV (me2 := mt_K_refuse) (b := kx) (as := [.int 1]) (st := []) (rv := (some (.int (-1)))) (M2 := ((ab_up I kx_now_refused 1 ((I kx_now_refused 1) + 1)), L, ab_RR, n, nc, ns)) d_K_breaks_26 ce_K_refuse v_574 v_576 v_10 (by decide) rfl (Nat.le_of_ble_eq_true rfl) (cx_K_refuse_0 1 hT (show (vp_in 1 3) from by unfold vp_in; decide) (show (vp_in 1 3) from by unfold vp_in; decide)) (Nat.le_refl _) (Nat.le_refl _) hc hs (fun j h9 => by cases h9) (fun _ _ => rfl) ?_
    show ab_E w (d + 1) mt_K_breaks 29 [.ref kx, .int v1, .ref kx_now_cables] [.int (-1)] ((ab_up I kx_now_refused 1 ((I kx_now_refused 1) + 1)), L, ab_RR, n, nc, ns) res
    exact ab_iret (ty := .int) d_K_breaks_29 rfl rfl h
  · have h := h.2 c2
    by_cases c5 : (I kx_now_cables 1) ≤ v1
    · have h := h.1 c5
      refine ab_callV (me2 := mt_Cables_has) (b := kx_now_cables) (as := [.int v1]) (st := []) (rv := (some (.int 0))) (M2 := (I, L, ab_RR, n, nc, ns)) d_K_breaks_10 ce_Cables_has v_567 v_568 v_569 (by decide) rfl (Nat.le_of_ble_eq_true rfl) (cx_Cables_has_1 v1 hT c2 c5) (Nat.le_refl _) (Nat.le_refl _) hc hs (fun j h9 => by cases h9) (fun _ _ => rfl) ?_
      show ab_E w (d + 1) mt_K_breaks 13 [.ref kx, .int v1, .ref kx_now_cables] [.int 0] (I, L, ab_RR, n, nc, ns) res
      refine ab_if_eq (tgt := 24) d_K_breaks_13 (by decide) (fun _ => ?_) (fun c9 => absurd (show (0 : Int32) = 0 from by decide) c9)
      refine ab_aload_n (i := 0) d_K_breaks_24 rfl rfl ?_
      refine ab_iconst (v := 1) d_K_breaks_25 rfl ?_
      refine ab_callV (me2 := mt_K_refuse) (b := kx) (as := [.int 1]) (st := []) (rv := (some (.int (-1)))) (M2 := ((ab_up I kx_now_refused 1 ((I kx_now_refused 1) + 1)), L, ab_RR, n, nc, ns)) d_K_breaks_26 ce_K_refuse v_574 v_576 v_10 (by decide) rfl (Nat.le_of_ble_eq_true rfl) (cx_K_refuse_0 1 hT (show (vp_in 1 3) from by unfold vp_in; decide) (show (vp_in 1 3) from by unfold vp_in; decide)) (Nat.le_refl _) (Nat.le_refl _) hc hs (fun j h9 => by cases h9) (fun _ _ => rfl) ?_
      show ab_E w (d + 1) mt_K_breaks 29 [.ref kx, .int v1, .ref kx_now_cables] [.int (-1)] ((ab_up I kx_now_refused 1 ((I kx_now_refused 1) + 1)), L, ab_RR, n, nc, ns) res
      exact ab_iret (ty := .int) d_K_breaks_29 rfl rfl h
    · have h := h.2 c5
      refine ab_callV (me2 := mt_Cables_has) (b := kx_now_cables) (as := [.int v1]) (st := []) (rv := (some (.int 1))) (M2 := (I, L, ab_RR, n, nc, ns)) d_K_breaks_10 ce_Cables_has v_567 v_568 v_569 (by decide) rfl (Nat.le_of_ble_eq_true rfl) (cx_Cables_has_2 v1 hT c2 c5) (Nat.le_refl _) (Nat.le_refl _) hc hs (fun j h9 => by cases h9) (fun _ _ => rfl) ?_
      show ab_E w (d + 1) mt_K_breaks 13 [.ref kx, .int v1, .ref kx_now_cables] [.int 1] (I, L, ab_RR, n, nc, ns) res
      refine ab_if_eq (tgt := 24) d_K_breaks_13 (by decide) (fun c9 => absurd c9 (show ¬ (1 : Int32) = 0 from by decide)) (fun _ => ?_)
      refine ab_aload_n (i := 2) d_K_breaks_16 rfl rfl ?_
      refine ab_iload_n (i := 1) d_K_breaks_17 rfl rfl ?_
      by_cases c9 : (((I kx_now_cables 2) >>> (v1 &&& 31)) &&& 1) = 1
      · have h := h.1 c9
        refine ab_callV (me2 := mt_Cables_isSound) (b := kx_now_cables) (as := [.int v1]) (st := []) (rv := (some (.int 1))) (M2 := (I, L, ab_RR, n, nc, ns)) d_K_breaks_18 ce_Cables_isSound v_624 v_540 v_541 (by decide) rfl (Nat.le_of_ble_eq_true rfl) (cx_Cables_isSound_0_1 v1 hT c9) (Nat.le_refl _) (Nat.le_refl _) hc hs (fun j h9 => by cases h9) (fun _ _ => rfl) ?_
        show ab_E w (d + 1) mt_K_breaks 21 [.ref kx, .int v1, .ref kx_now_cables] [.int 1] (I, L, ab_RR, n, nc, ns) res
        refine ab_if_ne (tgt := 30) d_K_breaks_21 (by decide) (fun _ => ?_) (fun c9 => absurd c9 (show ¬ (1 : Int32) = 0 from by decide))
        refine ab_aload_n (i := 0) d_K_breaks_30 rfl rfl ?_
        refine ab_getR (ci := 10) (k := 3) (j := kx_now) d_K_breaks_31 v_475 rfl (by decide) (by decide) rfl r_kx_3 ?_
        obtain ⟨I11, hC, h⟩ := h
        refine ab_callV (me2 := mt_State_keepAct) (b := kx_now) (as := []) (st := []) (rv := none) (M2 := (I11, L, ab_RR, n, nc, ns)) d_K_breaks_34 ce_State_keepAct v_578 v_579 v_580 (by decide) rfl (Nat.le_of_ble_eq_true rfl) hC (Nat.le_refl _) (Nat.le_refl _) hc hs (fun j h9 => by cases h9) (fun _ _ => rfl) ?_
        show ab_E w (d + 1) mt_K_breaks 37 [.ref kx, .int v1, .ref kx_now_cables] [] (I11, L, ab_RR, n, nc, ns) res
        refine ab_aload_n (i := 2) d_K_breaks_37 rfl rfl ?_
        refine ab_dupr d_K_breaks_38 ?_
        refine ab_getI (ci := 1) (k := 2) d_K_breaks_39 v_202 rfl (by decide) (by decide) rfl ?_
        refine ab_iconst (v := 1) d_K_breaks_42 rfl ?_
        refine ab_iload_n (i := 1) d_K_breaks_43 rfl rfl ?_
        refine ab_ishl d_K_breaks_44 ?_
        refine ab_iconst (v := (-1)) d_K_breaks_45 rfl ?_
        refine ab_ixor d_K_breaks_46 ?_
        refine ab_iand d_K_breaks_47 ?_
        refine ab_putI (ci := 1) (k := 2) d_K_breaks_48 v_202 rfl (by decide) (by decide) rfl (Or.inl rfl) rfl rfl ?_
        refine ab_aload_n (i := 0) d_K_breaks_51 rfl rfl ?_
        refine ab_iconst (v := 3) d_K_breaks_52 rfl ?_
        refine ab_iload_n (i := 1) d_K_breaks_53 rfl rfl ?_
        obtain ⟨I13, hC, h⟩ := h
        refine ab_callV (me2 := mt_K_regrow) (b := kx) (as := [.int 3, .int v1]) (st := []) (rv := none) (M2 := (I13, L, ab_RR, n, nc, ns)) d_K_breaks_54 ce_K_regrow v_595 v_597 v_12 (by decide) rfl (Nat.le_of_ble_eq_true rfl) hC (Nat.le_refl _) (Nat.le_refl _) hc hs (fun j h9 => by cases h9) (fun _ _ => rfl) ?_
        show ab_E w (d + 1) mt_K_breaks 57 [.ref kx, .int v1, .ref kx_now_cables] [] (I13, L, ab_RR, n, nc, ns) res
        refine ab_aload_n (i := 0) d_K_breaks_57 rfl rfl ?_
        refine ab_getR (ci := 10) (k := 7) (j := kx_ways) d_K_breaks_58 v_479 rfl (by decide) (by decide) rfl r_kx_7 ?_
        refine ab_aload_n (i := 2) d_K_breaks_61 rfl rfl ?_
        refine ab_aload_n (i := 0) d_K_breaks_62 rfl rfl ?_
        refine ab_getR (ci := 10) (k := 6) (j := kx_forest) d_K_breaks_63 v_478 rfl (by decide) (by decide) rfl r_kx_6 ?_
        obtain ⟨I15, hC, h⟩ := h
        refine ab_callV (me2 := mt_Ways_trace) (b := kx_ways) (as := [.ref kx_now_cables, .ref kx_forest]) (st := []) (rv := none) (M2 := (I15, L, ab_RR, n, nc, ns)) d_K_breaks_66 ce_Ways_trace v_453 v_454 v_455 (by decide) rfl (Nat.le_of_ble_eq_true rfl) hC (Nat.le_refl _) (Nat.le_refl _) hc hs (fun j h9 => by cases h9) (fun _ _ => rfl) ?_
        show ab_E w (d + 1) mt_K_breaks 69 [.ref kx, .int v1, .ref kx_now_cables] [] (I15, L, ab_RR, n, nc, ns) res
        refine ab_aload_n (i := 0) d_K_breaks_69 rfl rfl ?_
        refine ab_getR (ci := 10) (k := 6) (j := kx_forest) d_K_breaks_70 v_478 rfl (by decide) (by decide) rfl r_kx_6 ?_
        refine ab_getI (ci := 2) (k := 4) d_K_breaks_73 v_339 rfl (by decide) (by decide) rfl ?_
        exact ab_iret (ty := .int) d_K_breaks_76 rfl rfl h
      · have h := h.2 c9
        refine ab_callV (me2 := mt_Cables_isSound) (b := kx_now_cables) (as := [.int v1]) (st := []) (rv := (some (.int 0))) (M2 := (I, L, ab_RR, n, nc, ns)) d_K_breaks_18 ce_Cables_isSound v_624 v_540 v_541 (by decide) rfl (Nat.le_of_ble_eq_true rfl) (cx_Cables_isSound_0_0 v1 hT c9) (Nat.le_refl _) (Nat.le_refl _) hc hs (fun j h9 => by cases h9) (fun _ _ => rfl) ?_
        show ab_E w (d + 1) mt_K_breaks 21 [.ref kx, .int v1, .ref kx_now_cables] [.int 0] (I, L, ab_RR, n, nc, ns) res
        refine ab_if_ne (tgt := 30) d_K_breaks_21 (by decide) (fun c9 => absurd (show (0 : Int32) = 0 from by decide) c9) (fun _ => ?_)
        refine ab_aload_n (i := 0) d_K_breaks_24 rfl rfl ?_
        refine ab_iconst (v := 1) d_K_breaks_25 rfl ?_
        refine ab_callV (me2 := mt_K_refuse) (b := kx) (as := [.int 1]) (st := []) (rv := (some (.int (-1)))) (M2 := ((ab_up I kx_now_refused 1 ((I kx_now_refused 1) + 1)), L, ab_RR, n, nc, ns)) d_K_breaks_26 ce_K_refuse v_574 v_576 v_10 (by decide) rfl (Nat.le_of_ble_eq_true rfl) (cx_K_refuse_0 1 hT (show (vp_in 1 3) from by unfold vp_in; decide) (show (vp_in 1 3) from by unfold vp_in; decide)) (Nat.le_refl _) (Nat.le_refl _) hc hs (fun j h9 => by cases h9) (fun _ _ => rfl) ?_
        show ab_E w (d + 1) mt_K_breaks 29 [.ref kx, .int v1, .ref kx_now_cables] [.int (-1)] ((ab_up I kx_now_refused 1 ((I kx_now_refused 1) + 1)), L, ab_RR, n, nc, ns) res
        exact ab_iret (ty := .int) d_K_breaks_29 rfl rfl h
theorem r_K_mend_0 {w : ab_Wd} {d n nc ns : Nat} {I : Nat → Nat → Int32} {L : Nat → Nat → Int64} {res : ab_Re} (hT : w.1.stackTraces = false) (v1 : Int32) (hc : nc ≤ res.2.2.2.2.2.1) (hs : ns ≤ res.2.2.2.2.2.2)
    (h : ((v1 < 0 → (res = (.inl (some (.int (-1))), ((ab_up I kx_now_refused 1 ((I kx_now_refused 1) + 1)), L, ab_RR, n, nc, ns)))) ∧ (¬ v1 < 0 → (((I kx_now_cables 1) ≤ v1 → (res = (.inl (some (.int (-1))), ((ab_up I kx_now_refused 1 ((I kx_now_refused 1) + 1)), L, ab_RR, n, nc, ns)))) ∧ (¬ (I kx_now_cables 1) ≤ v1 → (((((I kx_now_cables 2) >>> (v1 &&& 31)) &&& 1) = 1 → (res = (.inl (some (.int (-1))), ((ab_up I kx_now_refused 1 ((I kx_now_refused 1) + 1)), L, ab_RR, n, nc, ns)))) ∧ (¬ (((I kx_now_cables 2) >>> (v1 &&& 31)) &&& 1) = 1 → (∃ (I13 : Nat → Nat → Int32), ab_C w d mt_State_keepAct [.ref kx_now] (I, L, ab_RR, n, nc, ns) (.inl none, (I13, L, ab_RR, n, nc, ns)) ∧ ∃ (I15 : Nat → Nat → Int32), ab_C w d mt_K_regrow [.ref kx, .int 4, .int v1] ((ab_up I13 kx_now_cables 2 ((I13 kx_now_cables 2) ||| ((1 : Int32) <<< (v1 &&& 31)))), L, ab_RR, n, nc, ns) (.inl none, (I15, L, ab_RR, n, nc, ns)) ∧ ∃ (I17 : Nat → Nat → Int32), ab_C w d mt_Ways_trace [.ref kx_ways, .ref kx_now_cables, .ref kx_forest] (I15, L, ab_RR, n, nc, ns) (.inl none, (I17, L, ab_RR, n, nc, ns)) ∧ res = (.inl (some (.int (I17 kx_forest 4))), (I17, L, ab_RR, n, nc, ns)))))))))) : ab_E w (d + 1) mt_K_mend 0 [.ref kx, .int v1, .null] [] (I, L, ab_RR, n, nc, ns) res := by
  refine ab_aload_n (i := 0) d_K_mend_0 rfl rfl ?_
  refine ab_getR (ci := 10) (k := 3) (j := kx_now) d_K_mend_1 v_475 rfl (by decide) (by decide) rfl r_kx_3 ?_
  refine ab_getR (ci := 6) (k := 0) (j := kx_now_cables) d_K_mend_4 v_294 rfl (by decide) (by decide) rfl r_kx_now_0 ?_
  refine ab_astore_n (i := 2) d_K_mend_7 rfl (by decide) (Or.inr rfl) ?_
  refine ab_aload_n (i := 2) d_K_mend_8 rfl rfl ?_
  refine ab_iload_n (i := 1) d_K_mend_9 rfl rfl ?_
  by_cases c2 : v1 < 0
  · have h := h.1 c2
    refine ab_callV (me2 := mt_Cables_has) (b := kx_now_cables) (as := [.int v1]) (st := []) (rv := (some (.int 0))) (M2 := (I, L, ab_RR, n, nc, ns)) d_K_mend_10 ce_Cables_has v_567 v_568 v_569 (by decide) rfl (Nat.le_of_ble_eq_true rfl) (cx_Cables_has_0 v1 hT c2) (Nat.le_refl _) (Nat.le_refl _) hc hs (fun j h9 => by cases h9) (fun _ _ => rfl) ?_
    show ab_E w (d + 1) mt_K_mend 13 [.ref kx, .int v1, .ref kx_now_cables] [.int 0] (I, L, ab_RR, n, nc, ns) res
    refine ab_if_eq (tgt := 24) d_K_mend_13 (by decide) (fun _ => ?_) (fun c9 => absurd (show (0 : Int32) = 0 from by decide) c9)
    refine ab_aload_n (i := 0) d_K_mend_24 rfl rfl ?_
    refine ab_iconst (v := 1) d_K_mend_25 rfl ?_
    refine ab_callV (me2 := mt_K_refuse) (b := kx) (as := [.int 1]) (st := []) (rv := (some (.int (-1)))) (M2 := ((ab_up I kx_now_refused 1 ((I kx_now_refused 1) + 1)), L, ab_RR, n, nc, ns)) d_K_mend_26 ce_K_refuse v_574 v_576 v_10 (by decide) rfl (Nat.le_of_ble_eq_true rfl) (cx_K_refuse_0 1 hT (show (vp_in 1 3) from by unfold vp_in; decide) (show (vp_in 1 3) from by unfold vp_in; decide)) (Nat.le_refl _) (Nat.le_refl _) hc hs (fun j h9 => by cases h9) (fun _ _ => rfl) ?_
    show ab_E w (d + 1) mt_K_mend 29 [.ref kx, .int v1, .ref kx_now_cables] [.int (-1)] ((ab_up I kx_now_refused 1 ((I kx_now_refused 1) + 1)), L, ab_RR, n, nc, ns) res
    exact ab_iret (ty := .int) d_K_mend_29 rfl rfl h
  · have h := h.2 c2
    by_cases c5 : (I kx_now_cables 1) ≤ v1
    · have h := h.1 c5
      refine ab_callV (me2 := mt_Cables_has) (b := kx_now_cables) (as := [.int v1]) (st := []) (rv := (some (.int 0))) (M2 := (I, L, ab_RR, n, nc, ns)) d_K_mend_10 ce_Cables_has v_567 v_568 v_569 (by decide) rfl (Nat.le_of_ble_eq_true rfl) (cx_Cables_has_1 v1 hT c2 c5) (Nat.le_refl _) (Nat.le_refl _) hc hs (fun j h9 => by cases h9) (fun _ _ => rfl) ?_
      show ab_E w (d + 1) mt_K_mend 13 [.ref kx, .int v1, .ref kx_now_cables] [.int 0] (I, L, ab_RR, n, nc, ns) res
      refine ab_if_eq (tgt := 24) d_K_mend_13 (by decide) (fun _ => ?_) (fun c9 => absurd (show (0 : Int32) = 0 from by decide) c9)
      refine ab_aload_n (i := 0) d_K_mend_24 rfl rfl ?_
      refine ab_iconst (v := 1) d_K_mend_25 rfl ?_
      refine ab_callV (me2 := mt_K_refuse) (b := kx) (as := [.int 1]) (st := []) (rv := (some (.int (-1)))) (M2 := ((ab_up I kx_now_refused 1 ((I kx_now_refused 1) + 1)), L, ab_RR, n, nc, ns)) d_K_mend_26 ce_K_refuse v_574 v_576 v_10 (by decide) rfl (Nat.le_of_ble_eq_true rfl) (cx_K_refuse_0 1 hT (show (vp_in 1 3) from by unfold vp_in; decide) (show (vp_in 1 3) from by unfold vp_in; decide)) (Nat.le_refl _) (Nat.le_refl _) hc hs (fun j h9 => by cases h9) (fun _ _ => rfl) ?_
      show ab_E w (d + 1) mt_K_mend 29 [.ref kx, .int v1, .ref kx_now_cables] [.int (-1)] ((ab_up I kx_now_refused 1 ((I kx_now_refused 1) + 1)), L, ab_RR, n, nc, ns) res
      exact ab_iret (ty := .int) d_K_mend_29 rfl rfl h
    · have h := h.2 c5
      refine ab_callV (me2 := mt_Cables_has) (b := kx_now_cables) (as := [.int v1]) (st := []) (rv := (some (.int 1))) (M2 := (I, L, ab_RR, n, nc, ns)) d_K_mend_10 ce_Cables_has v_567 v_568 v_569 (by decide) rfl (Nat.le_of_ble_eq_true rfl) (cx_Cables_has_2 v1 hT c2 c5) (Nat.le_refl _) (Nat.le_refl _) hc hs (fun j h9 => by cases h9) (fun _ _ => rfl) ?_
      show ab_E w (d + 1) mt_K_mend 13 [.ref kx, .int v1, .ref kx_now_cables] [.int 1] (I, L, ab_RR, n, nc, ns) res
      refine ab_if_eq (tgt := 24) d_K_mend_13 (by decide) (fun c9 => absurd c9 (show ¬ (1 : Int32) = 0 from by decide)) (fun _ => ?_)
      refine ab_aload_n (i := 2) d_K_mend_16 rfl rfl ?_
      refine ab_iload_n (i := 1) d_K_mend_17 rfl rfl ?_
      by_cases c9 : (((I kx_now_cables 2) >>> (v1 &&& 31)) &&& 1) = 1
      · have h := h.1 c9
        refine ab_callV (me2 := mt_Cables_isSound) (b := kx_now_cables) (as := [.int v1]) (st := []) (rv := (some (.int 1))) (M2 := (I, L, ab_RR, n, nc, ns)) d_K_mend_18 ce_Cables_isSound v_624 v_540 v_541 (by decide) rfl (Nat.le_of_ble_eq_true rfl) (cx_Cables_isSound_0_1 v1 hT c9) (Nat.le_refl _) (Nat.le_refl _) hc hs (fun j h9 => by cases h9) (fun _ _ => rfl) ?_
        show ab_E w (d + 1) mt_K_mend 21 [.ref kx, .int v1, .ref kx_now_cables] [.int 1] (I, L, ab_RR, n, nc, ns) res
        refine ab_if_eq (tgt := 30) d_K_mend_21 (by decide) (fun c9 => absurd c9 (show ¬ (1 : Int32) = 0 from by decide)) (fun _ => ?_)
        refine ab_aload_n (i := 0) d_K_mend_24 rfl rfl ?_
        refine ab_iconst (v := 1) d_K_mend_25 rfl ?_
        refine ab_callV (me2 := mt_K_refuse) (b := kx) (as := [.int 1]) (st := []) (rv := (some (.int (-1)))) (M2 := ((ab_up I kx_now_refused 1 ((I kx_now_refused 1) + 1)), L, ab_RR, n, nc, ns)) d_K_mend_26 ce_K_refuse v_574 v_576 v_10 (by decide) rfl (Nat.le_of_ble_eq_true rfl) (cx_K_refuse_0 1 hT (show (vp_in 1 3) from by unfold vp_in; decide) (show (vp_in 1 3) from by unfold vp_in; decide)) (Nat.le_refl _) (Nat.le_refl _) hc hs (fun j h9 => by cases h9) (fun _ _ => rfl) ?_
        show ab_E w (d + 1) mt_K_mend 29 [.ref kx, .int v1, .ref kx_now_cables] [.int (-1)] ((ab_up I kx_now_refused 1 ((I kx_now_refused 1) + 1)), L, ab_RR, n, nc, ns) res
        exact ab_iret (ty := .int) d_K_mend_29 rfl rfl h
      · have h := h.2 c9
        refine ab_callV (me2 := mt_Cables_isSound) (b := kx_now_cables) (as := [.int v1]) (st := []) (rv := (some (.int 0))) (M2 := (I, L, ab_RR, n, nc, ns)) d_K_mend_18 ce_Cables_isSound v_624 v_540 v_541 (by decide) rfl (Nat.le_of_ble_eq_true rfl) (cx_Cables_isSound_0_0 v1 hT c9) (Nat.le_refl _) (Nat.le_refl _) hc hs (fun j h9 => by cases h9) (fun _ _ => rfl) ?_
        show ab_E w (d + 1) mt_K_mend 21 [.ref kx, .int v1, .ref kx_now_cables] [.int 0] (I, L, ab_RR, n, nc, ns) res
        refine ab_if_eq (tgt := 30) d_K_mend_21 (by decide) (fun _ => ?_) (fun c9 => absurd (show (0 : Int32) = 0 from by decide) c9)
        refine ab_aload_n (i := 0) d_K_mend_30 rfl rfl ?_
        refine ab_getR (ci := 10) (k := 3) (j := kx_now) d_K_mend_31 v_475 rfl (by decide) (by decide) rfl r_kx_3 ?_
        obtain ⟨I13, hC, h⟩ := h
        refine ab_callV (me2 := mt_State_keepAct) (b := kx_now) (as := []) (st := []) (rv := none) (M2 := (I13, L, ab_RR, n, nc, ns)) d_K_mend_34 ce_State_keepAct v_578 v_579 v_580 (by decide) rfl (Nat.le_of_ble_eq_true rfl) hC (Nat.le_refl _) (Nat.le_refl _) hc hs (fun j h9 => by cases h9) (fun _ _ => rfl) ?_
        show ab_E w (d + 1) mt_K_mend 37 [.ref kx, .int v1, .ref kx_now_cables] [] (I13, L, ab_RR, n, nc, ns) res
        refine ab_aload_n (i := 2) d_K_mend_37 rfl rfl ?_
        refine ab_dupr d_K_mend_38 ?_
        refine ab_getI (ci := 1) (k := 2) d_K_mend_39 v_202 rfl (by decide) (by decide) rfl ?_
        refine ab_iconst (v := 1) d_K_mend_42 rfl ?_
        refine ab_iload_n (i := 1) d_K_mend_43 rfl rfl ?_
        refine ab_ishl d_K_mend_44 ?_
        refine ab_ior d_K_mend_45 ?_
        refine ab_putI (ci := 1) (k := 2) d_K_mend_46 v_202 rfl (by decide) (by decide) rfl (Or.inl rfl) rfl rfl ?_
        refine ab_aload_n (i := 0) d_K_mend_49 rfl rfl ?_
        refine ab_iconst (v := 4) d_K_mend_50 rfl ?_
        refine ab_iload_n (i := 1) d_K_mend_51 rfl rfl ?_
        obtain ⟨I15, hC, h⟩ := h
        refine ab_callV (me2 := mt_K_regrow) (b := kx) (as := [.int 4, .int v1]) (st := []) (rv := none) (M2 := (I15, L, ab_RR, n, nc, ns)) d_K_mend_52 ce_K_regrow v_595 v_597 v_12 (by decide) rfl (Nat.le_of_ble_eq_true rfl) hC (Nat.le_refl _) (Nat.le_refl _) hc hs (fun j h9 => by cases h9) (fun _ _ => rfl) ?_
        show ab_E w (d + 1) mt_K_mend 55 [.ref kx, .int v1, .ref kx_now_cables] [] (I15, L, ab_RR, n, nc, ns) res
        refine ab_aload_n (i := 0) d_K_mend_55 rfl rfl ?_
        refine ab_getR (ci := 10) (k := 7) (j := kx_ways) d_K_mend_56 v_479 rfl (by decide) (by decide) rfl r_kx_7 ?_
        refine ab_aload_n (i := 2) d_K_mend_59 rfl rfl ?_
        refine ab_aload_n (i := 0) d_K_mend_60 rfl rfl ?_
        refine ab_getR (ci := 10) (k := 6) (j := kx_forest) d_K_mend_61 v_478 rfl (by decide) (by decide) rfl r_kx_6 ?_
        obtain ⟨I17, hC, h⟩ := h
        refine ab_callV (me2 := mt_Ways_trace) (b := kx_ways) (as := [.ref kx_now_cables, .ref kx_forest]) (st := []) (rv := none) (M2 := (I17, L, ab_RR, n, nc, ns)) d_K_mend_64 ce_Ways_trace v_453 v_454 v_455 (by decide) rfl (Nat.le_of_ble_eq_true rfl) hC (Nat.le_refl _) (Nat.le_refl _) hc hs (fun j h9 => by cases h9) (fun _ _ => rfl) ?_
        show ab_E w (d + 1) mt_K_mend 67 [.ref kx, .int v1, .ref kx_now_cables] [] (I17, L, ab_RR, n, nc, ns) res
        refine ab_aload_n (i := 0) d_K_mend_67 rfl rfl ?_
        refine ab_getR (ci := 10) (k := 6) (j := kx_forest) d_K_mend_68 v_478 rfl (by decide) (by decide) rfl r_kx_6 ?_
        refine ab_getI (ci := 2) (k := 4) d_K_mend_71 v_339 rfl (by decide) (by decide) rfl ?_
        exact ab_iret (ty := .int) d_K_mend_74 rfl rfl h
theorem cx_Cables_hasSite_0 {w : ab_Wd} {d n nc ns : Nat} {I : Nat → Nat → Int32} {L : Nat → Nat → Int64} (v1 : Int32) (hT : w.1.stackTraces = false) (e1 : v1 < 0) : ab_C w d mt_Cables_hasSite [.ref kx_now_cables, .int v1] (I, L, ab_RR, n, nc, ns) (.inl (some (.int 0)), (I, L, ab_RR, n, nc, ns)) := by
  refine ab_C_of (by decide) rfl (Nat.le_of_ble_eq_true rfl) hT ?_
  have hc := Nat.le_refl nc
  have hs := Nat.le_refl ns
  refine ab_iload_n (i := 1) d_Cables_hasSite_0 rfl rfl ?_
  refine ab_if_lt (tgt := 16) d_Cables_hasSite_1 (by decide) (fun _ => ?_) (fun c9 => absurd e1 c9)
  refine ab_iconst (v := 0) d_Cables_hasSite_16 rfl ?_
  exact ab_iret (ty := .boolean) d_Cables_hasSite_17 rfl rfl rfl
theorem cx_Cables_hasSite_1 {w : ab_Wd} {d n nc ns : Nat} {I : Nat → Nat → Int32} {L : Nat → Nat → Int64} (v1 : Int32) (hT : w.1.stackTraces = false) (e1 : ¬ v1 < 0) (e2 : (I kx_now_cables 0) ≤ v1) : ab_C w d mt_Cables_hasSite [.ref kx_now_cables, .int v1] (I, L, ab_RR, n, nc, ns) (.inl (some (.int 0)), (I, L, ab_RR, n, nc, ns)) := by
  refine ab_C_of (by decide) rfl (Nat.le_of_ble_eq_true rfl) hT ?_
  have hc := Nat.le_refl nc
  have hs := Nat.le_refl ns
  refine ab_iload_n (i := 1) d_Cables_hasSite_0 rfl rfl ?_
  refine ab_if_lt (tgt := 16) d_Cables_hasSite_1 (by decide) (fun c9 => absurd c9 e1) (fun _ => ?_)
  refine ab_iload_n (i := 1) d_Cables_hasSite_4 rfl rfl ?_
  refine ab_aload_n (i := 0) d_Cables_hasSite_5 rfl rfl ?_
  refine ab_getI (ci := 1) (k := 0) d_Cables_hasSite_6 v_185 rfl (by decide) (by decide) rfl ?_
  refine ab_icmp_ge (tgt := 16) d_Cables_hasSite_9 (by decide) (fun _ => ?_) (fun c9 => absurd e2 c9)
  refine ab_iconst (v := 0) d_Cables_hasSite_16 rfl ?_
  exact ab_iret (ty := .boolean) d_Cables_hasSite_17 rfl rfl rfl
theorem cx_Cables_hasSite_2 {w : ab_Wd} {d n nc ns : Nat} {I : Nat → Nat → Int32} {L : Nat → Nat → Int64} (v1 : Int32) (hT : w.1.stackTraces = false) (e1 : ¬ v1 < 0) (e2 : ¬ (I kx_now_cables 0) ≤ v1) : ab_C w d mt_Cables_hasSite [.ref kx_now_cables, .int v1] (I, L, ab_RR, n, nc, ns) (.inl (some (.int 1)), (I, L, ab_RR, n, nc, ns)) := by
  refine ab_C_of (by decide) rfl (Nat.le_of_ble_eq_true rfl) hT ?_
  have hc := Nat.le_refl nc
  have hs := Nat.le_refl ns
  refine ab_iload_n (i := 1) d_Cables_hasSite_0 rfl rfl ?_
  refine ab_if_lt (tgt := 16) d_Cables_hasSite_1 (by decide) (fun c9 => absurd c9 e1) (fun _ => ?_)
  refine ab_iload_n (i := 1) d_Cables_hasSite_4 rfl rfl ?_
  refine ab_aload_n (i := 0) d_Cables_hasSite_5 rfl rfl ?_
  refine ab_getI (ci := 1) (k := 0) d_Cables_hasSite_6 v_185 rfl (by decide) (by decide) rfl ?_
  refine ab_icmp_ge (tgt := 16) d_Cables_hasSite_9 (by decide) (fun c9 => absurd c9 e2) (fun _ => ?_)
  refine ab_iconst (v := 1) d_Cables_hasSite_12 rfl ?_
  refine ab_goto (tgt := 17) d_Cables_hasSite_13 (by decide) ?_
  exact ab_iret (ty := .boolean) d_Cables_hasSite_17 rfl rfl rfl
theorem cx_Cables_add_0_0 {w : ab_Wd} {d n nc ns : Nat} {I : Nat → Nat → Int32} {L : Nat → Nat → Int64} (v1 : Int32) (v2 : Int32) (v3 : Int32) (v4 : Int32) (hT : w.1.stackTraces = false) (e1 : (I kx_now_cables 1) < 24) (e2 : (vp_in (I kx_now_cables 1) 24)) (e3 : (vp_in (I kx_now_cables 1) 24)) (e4 : (vp_in (I kx_now_cables 1) 24)) (e5 : (vp_in (I kx_now_cables 1) 24)) : ab_C w d mt_Cables_add [.ref kx_now_cables, .int v1, .int v2, .int v3, .int v4] (I, L, ab_RR, n, nc, ns) (.inl (some (.int (((I kx_now_cables 1) + 1) - 1))), ((ab_up (ab_up (ab_up (ab_up (ab_up (ab_up I kx_now_cables_first (I kx_now_cables 1).toNatClampNeg v1) kx_now_cables_second (I kx_now_cables 1).toNatClampNeg v2) kx_now_cables_price (I kx_now_cables 1).toNatClampNeg v3) kx_now_cables_firm (I kx_now_cables 1).toNatClampNeg v4) kx_now_cables 2 ((I kx_now_cables 2) ||| ((1 : Int32) <<< ((I kx_now_cables 1) &&& 31)))) kx_now_cables 1 ((I kx_now_cables 1) + 1)), L, ab_RR, n, nc, ns)) := by
  refine ab_C_of (by decide) rfl (Nat.le_of_ble_eq_true rfl) hT ?_
  have hc := Nat.le_refl nc
  have hs := Nat.le_refl ns
  refine ab_aload_n (i := 0) d_Cables_add_0 rfl rfl ?_
  refine ab_getI (ci := 1) (k := 1) d_Cables_add_1 v_192 rfl (by decide) (by decide) rfl ?_
  refine ab_bipush (v := 24) d_Cables_add_4 rfl ?_
  refine ab_icmp_lt (tgt := 11) d_Cables_add_6 (by decide) (fun _ => ?_) (fun c9 => absurd e1 c9)
  refine ab_aload_n (i := 0) d_Cables_add_11 rfl rfl ?_
  refine ab_getR (ci := 1) (k := 3) (j := kx_now_cables_first) d_Cables_add_12 v_204 rfl (by decide) (by decide) rfl r_kx_now_cables_3 ?_
  refine ab_aload_n (i := 0) d_Cables_add_15 rfl rfl ?_
  refine ab_getI (ci := 1) (k := 1) d_Cables_add_16 v_192 rfl (by decide) (by decide) rfl ?_
  refine ab_iload_n (i := 1) d_Cables_add_19 rfl rfl ?_
  refine ab_iast d_Cables_add_20 rfl rfl e2 ?_
  refine ab_aload_n (i := 0) d_Cables_add_21 rfl rfl ?_
  refine ab_getR (ci := 1) (k := 4) (j := kx_now_cables_second) d_Cables_add_22 v_211 rfl (by decide) (by decide) rfl r_kx_now_cables_4 ?_
  refine ab_aload_n (i := 0) d_Cables_add_25 rfl rfl ?_
  refine ab_getI (ci := 1) (k := 1) d_Cables_add_26 v_192 rfl (by decide) (by decide) rfl ?_
  refine ab_iload_n (i := 2) d_Cables_add_29 rfl rfl ?_
  refine ab_iast d_Cables_add_30 rfl rfl e3 ?_
  refine ab_aload_n (i := 0) d_Cables_add_31 rfl rfl ?_
  refine ab_getR (ci := 1) (k := 5) (j := kx_now_cables_price) d_Cables_add_32 v_218 rfl (by decide) (by decide) rfl r_kx_now_cables_5 ?_
  refine ab_aload_n (i := 0) d_Cables_add_35 rfl rfl ?_
  refine ab_getI (ci := 1) (k := 1) d_Cables_add_36 v_192 rfl (by decide) (by decide) rfl ?_
  refine ab_iload_n (i := 3) d_Cables_add_39 rfl rfl ?_
  refine ab_iast d_Cables_add_40 rfl rfl e4 ?_
  refine ab_aload_n (i := 0) d_Cables_add_41 rfl rfl ?_
  refine ab_getR (ci := 1) (k := 6) (j := kx_now_cables_firm) d_Cables_add_42 v_226 rfl (by decide) (by decide) rfl r_kx_now_cables_6 ?_
  refine ab_aload_n (i := 0) d_Cables_add_45 rfl rfl ?_
  refine ab_getI (ci := 1) (k := 1) d_Cables_add_46 v_192 rfl (by decide) (by decide) rfl ?_
  refine ab_iload (i := 4) d_Cables_add_49 rfl ?_
  refine ab_iast d_Cables_add_51 rfl rfl e5 ?_
  refine ab_aload_n (i := 0) d_Cables_add_52 rfl rfl ?_
  refine ab_dupr d_Cables_add_53 ?_
  refine ab_getI (ci := 1) (k := 2) d_Cables_add_54 v_200 rfl (by decide) (by decide) rfl ?_
  refine ab_iconst (v := 1) d_Cables_add_57 rfl ?_
  refine ab_aload_n (i := 0) d_Cables_add_58 rfl rfl ?_
  refine ab_getI (ci := 1) (k := 1) d_Cables_add_59 v_192 rfl (by decide) (by decide) rfl ?_
  refine ab_ishl d_Cables_add_62 ?_
  refine ab_ior d_Cables_add_63 ?_
  refine ab_putI (ci := 1) (k := 2) d_Cables_add_64 v_200 rfl (by decide) (by decide) rfl (Or.inl rfl) rfl rfl ?_
  refine ab_aload_n (i := 0) d_Cables_add_67 rfl rfl ?_
  refine ab_dupr d_Cables_add_68 ?_
  refine ab_getI (ci := 1) (k := 1) d_Cables_add_69 v_192 rfl (by decide) (by decide) rfl ?_
  refine ab_iconst (v := 1) d_Cables_add_72 rfl ?_
  refine ab_iadd d_Cables_add_73 ?_
  refine ab_putI (ci := 1) (k := 1) d_Cables_add_74 v_192 rfl (by decide) (by decide) rfl (Or.inl rfl) rfl rfl ?_
  refine ab_aload_n (i := 0) d_Cables_add_77 rfl rfl ?_
  refine ab_getI (ci := 1) (k := 1) d_Cables_add_78 v_192 rfl (by decide) (by decide) rfl ?_
  refine ab_iconst (v := 1) d_Cables_add_81 rfl ?_
  refine ab_isub d_Cables_add_82 ?_
  exact ab_iret (ty := .int) d_Cables_add_83 rfl rfl rfl
theorem cx_Cables_add_0_1 {w : ab_Wd} {d n nc ns : Nat} {I : Nat → Nat → Int32} {L : Nat → Nat → Int64} (v1 : Int32) (v2 : Int32) (v3 : Int32) (v4 : Int32) (hT : w.1.stackTraces = false) (e1 : ¬ (I kx_now_cables 1) < 24) : ab_C w d mt_Cables_add [.ref kx_now_cables, .int v1, .int v2, .int v3, .int v4] (I, L, ab_RR, n, nc, ns) (.inl (some (.int (-1))), (I, L, ab_RR, n, nc, ns)) := by
  refine ab_C_of (by decide) rfl (Nat.le_of_ble_eq_true rfl) hT ?_
  have hc := Nat.le_refl nc
  have hs := Nat.le_refl ns
  refine ab_aload_n (i := 0) d_Cables_add_0 rfl rfl ?_
  refine ab_getI (ci := 1) (k := 1) d_Cables_add_1 v_192 rfl (by decide) (by decide) rfl ?_
  refine ab_bipush (v := 24) d_Cables_add_4 rfl ?_
  refine ab_icmp_lt (tgt := 11) d_Cables_add_6 (by decide) (fun c9 => absurd c9 e1) (fun _ => ?_)
  refine ab_iconst (v := (-1)) d_Cables_add_9 rfl ?_
  exact ab_iret (ty := .int) d_Cables_add_10 rfl rfl rfl
theorem r_K_lay_0 {w : ab_Wd} {d n nc ns : Nat} {I : Nat → Nat → Int32} {L : Nat → Nat → Int64} {res : ab_Re} (hT : w.1.stackTraces = false) (v1 : Int32) (v2 : Int32) (v3 : Int32) (v4 : Int32) (hc : nc ≤ res.2.2.2.2.2.1) (hs : ns ≤ res.2.2.2.2.2.2)
    (h : ((v1 < 0 → (res = (.inl (some (.int (-1))), ((ab_up I kx_now_refused 1 ((I kx_now_refused 1) + 1)), L, ab_RR, n, nc, ns)))) ∧ (¬ v1 < 0 → (((I kx_now_cables 0) ≤ v1 → (res = (.inl (some (.int (-1))), ((ab_up I kx_now_refused 1 ((I kx_now_refused 1) + 1)), L, ab_RR, n, nc, ns)))) ∧ (¬ (I kx_now_cables 0) ≤ v1 → ((v2 < 0 → (res = (.inl (some (.int (-1))), ((ab_up I kx_now_refused 1 ((I kx_now_refused 1) + 1)), L, ab_RR, n, nc, ns)))) ∧ (¬ v2 < 0 → (((I kx_now_cables 0) ≤ v2 → (res = (.inl (some (.int (-1))), ((ab_up I kx_now_refused 1 ((I kx_now_refused 1) + 1)), L, ab_RR, n, nc, ns)))) ∧ (¬ (I kx_now_cables 0) ≤ v2 → ((v1 = v2 → (res = (.inl (some (.int (-1))), ((ab_up I kx_now_refused 1 ((I kx_now_refused 1) + 1)), L, ab_RR, n, nc, ns)))) ∧ (¬ v1 = v2 → ((v3 < 1 → (res = (.inl (some (.int (-1))), ((ab_up I kx_now_refused 1 ((I kx_now_refused 1) + 1)), L, ab_RR, n, nc, ns)))) ∧ (¬ v3 < 1 → ((999 < v3 → (res = (.inl (some (.int (-1))), ((ab_up I kx_now_refused 1 ((I kx_now_refused 1) + 1)), L, ab_RR, n, nc, ns)))) ∧ (¬ 999 < v3 → ((v4 < 0 → (res = (.inl (some (.int (-1))), ((ab_up I kx_now_refused 1 ((I kx_now_refused 1) + 1)), L, ab_RR, n, nc, ns)))) ∧ (¬ v4 < 0 → ((4 ≤ v4 → (res = (.inl (some (.int (-1))), ((ab_up I kx_now_refused 1 ((I kx_now_refused 1) + 1)), L, ab_RR, n, nc, ns)))) ∧ (¬ 4 ≤ v4 → ((24 ≤ (I kx_now_cables 1) → (res = (.inl (some (.int (-1))), ((ab_up I kx_now_refused 1 ((I kx_now_refused 1) + 1)), L, ab_RR, n, nc, ns)))) ∧ (¬ 24 ≤ (I kx_now_cables 1) → (∃ (I36 : Nat → Nat → Int32), ab_C w d mt_State_keepAct [.ref kx_now] (I, L, ab_RR, n, nc, ns) (.inl none, (I36, L, ab_RR, n, nc, ns)) ∧ (((I36 kx_now_cables 1) < 24 → ((vp_in (I36 kx_now_cables 1) 24) ∧ ∃ (I42 : Nat → Nat → Int32), ab_C w d mt_Cables_sort [.ref kx_now_cables] ((ab_up (ab_up (ab_up (ab_up (ab_up (ab_up I36 kx_now_cables_first (I36 kx_now_cables 1).toNatClampNeg v1) kx_now_cables_second (I36 kx_now_cables 1).toNatClampNeg v2) kx_now_cables_price (I36 kx_now_cables 1).toNatClampNeg v3) kx_now_cables_firm (I36 kx_now_cables 1).toNatClampNeg v4) kx_now_cables 2 ((I36 kx_now_cables 2) ||| ((1 : Int32) <<< ((I36 kx_now_cables 1) &&& 31)))) kx_now_cables 1 ((I36 kx_now_cables 1) + 1)), L, ab_RR, n, nc, ns) (.inl none, (I42, L, ab_RR, n, nc, ns)) ∧ ∃ (I44 : Nat → Nat → Int32), ab_C w d mt_K_regrow [.ref kx, .int 5, .int (((I36 kx_now_cables 1) + 1) - 1)] (I42, L, ab_RR, n, nc, ns) (.inl none, (I44, L, ab_RR, n, nc, ns)) ∧ ∃ (I46 : Nat → Nat → Int32), ab_C w d mt_Ways_trace [.ref kx_ways, .ref kx_now_cables, .ref kx_forest] (I44, L, ab_RR, n, nc, ns) (.inl none, (I46, L, ab_RR, n, nc, ns)) ∧ res = (.inl (some (.int (((I36 kx_now_cables 1) + 1) - 1))), (I46, L, ab_RR, n, nc, ns)))) ∧ (¬ (I36 kx_now_cables 1) < 24 → (∃ (I48 : Nat → Nat → Int32), ab_C w d mt_Cables_sort [.ref kx_now_cables] (I36, L, ab_RR, n, nc, ns) (.inl none, (I48, L, ab_RR, n, nc, ns)) ∧ ∃ (I50 : Nat → Nat → Int32), ab_C w d mt_K_regrow [.ref kx, .int 5, .int (-1)] (I48, L, ab_RR, n, nc, ns) (.inl none, (I50, L, ab_RR, n, nc, ns)) ∧ ∃ (I52 : Nat → Nat → Int32), ab_C w d mt_Ways_trace [.ref kx_ways, .ref kx_now_cables, .ref kx_forest] (I50, L, ab_RR, n, nc, ns) (.inl none, (I52, L, ab_RR, n, nc, ns)) ∧ res = (.inl (some (.int (-1))), (I52, L, ab_RR, n, nc, ns))))))))))))))))))))))))))) : ab_E w (d + 1) mt_K_lay 0 [.ref kx, .int v1, .int v2, .int v3, .int v4, .null, .null, .null] [] (I, L, ab_RR, n, nc, ns) res := by
  refine ab_aload_n (i := 0) d_K_lay_0 rfl rfl ?_
  refine ab_getR (ci := 10) (k := 3) (j := kx_now) d_K_lay_1 v_475 rfl (by decide) (by decide) rfl r_kx_3 ?_
  refine ab_getR (ci := 6) (k := 0) (j := kx_now_cables) d_K_lay_4 v_294 rfl (by decide) (by decide) rfl r_kx_now_0 ?_
  refine ab_astore (i := 5) d_K_lay_7 (by decide) (Or.inr rfl) ?_
  refine ab_aload (i := 5) d_K_lay_9 rfl ?_
  refine ab_iload_n (i := 1) d_K_lay_11 rfl rfl ?_
  by_cases c2 : v1 < 0
  · have h := h.1 c2
    refine ab_callV (me2 := mt_Cables_hasSite) (b := kx_now_cables) (as := [.int v1]) (st := []) (rv := (some (.int 0))) (M2 := (I, L, ab_RR, n, nc, ns)) d_K_lay_12 ce_Cables_hasSite v_633 v_634 v_635 (by decide) rfl (Nat.le_of_ble_eq_true rfl) (cx_Cables_hasSite_0 v1 hT c2) (Nat.le_refl _) (Nat.le_refl _) hc hs (fun j h9 => by cases h9) (fun _ _ => rfl) ?_
    show ab_E w (d + 1) mt_K_lay 15 [.ref kx, .int v1, .int v2, .int v3, .int v4, .ref kx_now_cables, .null, .null] [.int 0] (I, L, ab_RR, n, nc, ns) res
    refine ab_if_eq (tgt := 61) d_K_lay_15 (by decide) (fun _ => ?_) (fun c9 => absurd (show (0 : Int32) = 0 from by decide) c9)
    refine ab_iconst (v := 0) d_K_lay_61 rfl ?_
    refine ab_istore (i := 6) d_K_lay_62 (by decide) (Or.inr rfl) ?_
    refine ab_iload (i := 6) d_K_lay_64 rfl ?_
    refine ab_if_ne (tgt := 75) d_K_lay_66 (by decide) (fun c9 => absurd (show (0 : Int32) = 0 from by decide) c9) (fun _ => ?_)
    refine ab_aload_n (i := 0) d_K_lay_69 rfl rfl ?_
    refine ab_iconst (v := 1) d_K_lay_70 rfl ?_
    refine ab_callV (me2 := mt_K_refuse) (b := kx) (as := [.int 1]) (st := []) (rv := (some (.int (-1)))) (M2 := ((ab_up I kx_now_refused 1 ((I kx_now_refused 1) + 1)), L, ab_RR, n, nc, ns)) d_K_lay_71 ce_K_refuse v_574 v_576 v_10 (by decide) rfl (Nat.le_of_ble_eq_true rfl) (cx_K_refuse_0 1 hT (show (vp_in 1 3) from by unfold vp_in; decide) (show (vp_in 1 3) from by unfold vp_in; decide)) (Nat.le_refl _) (Nat.le_refl _) hc hs (fun j h9 => by cases h9) (fun _ _ => rfl) ?_
    show ab_E w (d + 1) mt_K_lay 74 [.ref kx, .int v1, .int v2, .int v3, .int v4, .ref kx_now_cables, .int 0, .null] [.int (-1)] ((ab_up I kx_now_refused 1 ((I kx_now_refused 1) + 1)), L, ab_RR, n, nc, ns) res
    exact ab_iret (ty := .int) d_K_lay_74 rfl rfl h
  · have h := h.2 c2
    by_cases c5 : (I kx_now_cables 0) ≤ v1
    · have h := h.1 c5
      refine ab_callV (me2 := mt_Cables_hasSite) (b := kx_now_cables) (as := [.int v1]) (st := []) (rv := (some (.int 0))) (M2 := (I, L, ab_RR, n, nc, ns)) d_K_lay_12 ce_Cables_hasSite v_633 v_634 v_635 (by decide) rfl (Nat.le_of_ble_eq_true rfl) (cx_Cables_hasSite_1 v1 hT c2 c5) (Nat.le_refl _) (Nat.le_refl _) hc hs (fun j h9 => by cases h9) (fun _ _ => rfl) ?_
      show ab_E w (d + 1) mt_K_lay 15 [.ref kx, .int v1, .int v2, .int v3, .int v4, .ref kx_now_cables, .null, .null] [.int 0] (I, L, ab_RR, n, nc, ns) res
      refine ab_if_eq (tgt := 61) d_K_lay_15 (by decide) (fun _ => ?_) (fun c9 => absurd (show (0 : Int32) = 0 from by decide) c9)
      refine ab_iconst (v := 0) d_K_lay_61 rfl ?_
      refine ab_istore (i := 6) d_K_lay_62 (by decide) (Or.inr rfl) ?_
      refine ab_iload (i := 6) d_K_lay_64 rfl ?_
      refine ab_if_ne (tgt := 75) d_K_lay_66 (by decide) (fun c9 => absurd (show (0 : Int32) = 0 from by decide) c9) (fun _ => ?_)
      refine ab_aload_n (i := 0) d_K_lay_69 rfl rfl ?_
      refine ab_iconst (v := 1) d_K_lay_70 rfl ?_
      refine ab_callV (me2 := mt_K_refuse) (b := kx) (as := [.int 1]) (st := []) (rv := (some (.int (-1)))) (M2 := ((ab_up I kx_now_refused 1 ((I kx_now_refused 1) + 1)), L, ab_RR, n, nc, ns)) d_K_lay_71 ce_K_refuse v_574 v_576 v_10 (by decide) rfl (Nat.le_of_ble_eq_true rfl) (cx_K_refuse_0 1 hT (show (vp_in 1 3) from by unfold vp_in; decide) (show (vp_in 1 3) from by unfold vp_in; decide)) (Nat.le_refl _) (Nat.le_refl _) hc hs (fun j h9 => by cases h9) (fun _ _ => rfl) ?_
      show ab_E w (d + 1) mt_K_lay 74 [.ref kx, .int v1, .int v2, .int v3, .int v4, .ref kx_now_cables, .int 0, .null] [.int (-1)] ((ab_up I kx_now_refused 1 ((I kx_now_refused 1) + 1)), L, ab_RR, n, nc, ns) res
      exact ab_iret (ty := .int) d_K_lay_74 rfl rfl h
    · have h := h.2 c5
      refine ab_callV (me2 := mt_Cables_hasSite) (b := kx_now_cables) (as := [.int v1]) (st := []) (rv := (some (.int 1))) (M2 := (I, L, ab_RR, n, nc, ns)) d_K_lay_12 ce_Cables_hasSite v_633 v_634 v_635 (by decide) rfl (Nat.le_of_ble_eq_true rfl) (cx_Cables_hasSite_2 v1 hT c2 c5) (Nat.le_refl _) (Nat.le_refl _) hc hs (fun j h9 => by cases h9) (fun _ _ => rfl) ?_
      show ab_E w (d + 1) mt_K_lay 15 [.ref kx, .int v1, .int v2, .int v3, .int v4, .ref kx_now_cables, .null, .null] [.int 1] (I, L, ab_RR, n, nc, ns) res
      refine ab_if_eq (tgt := 61) d_K_lay_15 (by decide) (fun c9 => absurd c9 (show ¬ (1 : Int32) = 0 from by decide)) (fun _ => ?_)
      refine ab_aload (i := 5) d_K_lay_18 rfl ?_
      refine ab_iload_n (i := 2) d_K_lay_20 rfl rfl ?_
      by_cases c9 : v2 < 0
      · have h := h.1 c9
        refine ab_callV (me2 := mt_Cables_hasSite) (b := kx_now_cables) (as := [.int v2]) (st := []) (rv := (some (.int 0))) (M2 := (I, L, ab_RR, n, nc, ns)) d_K_lay_21 ce_Cables_hasSite v_633 v_634 v_635 (by decide) rfl (Nat.le_of_ble_eq_true rfl) (cx_Cables_hasSite_0 v2 hT c9) (Nat.le_refl _) (Nat.le_refl _) hc hs (fun j h9 => by cases h9) (fun _ _ => rfl) ?_
        show ab_E w (d + 1) mt_K_lay 24 [.ref kx, .int v1, .int v2, .int v3, .int v4, .ref kx_now_cables, .null, .null] [.int 0] (I, L, ab_RR, n, nc, ns) res
        refine ab_if_eq (tgt := 61) d_K_lay_24 (by decide) (fun _ => ?_) (fun c9 => absurd (show (0 : Int32) = 0 from by decide) c9)
        refine ab_iconst (v := 0) d_K_lay_61 rfl ?_
        refine ab_istore (i := 6) d_K_lay_62 (by decide) (Or.inr rfl) ?_
        refine ab_iload (i := 6) d_K_lay_64 rfl ?_
        refine ab_if_ne (tgt := 75) d_K_lay_66 (by decide) (fun c9 => absurd (show (0 : Int32) = 0 from by decide) c9) (fun _ => ?_)
        refine ab_aload_n (i := 0) d_K_lay_69 rfl rfl ?_
        refine ab_iconst (v := 1) d_K_lay_70 rfl ?_
        refine ab_callV (me2 := mt_K_refuse) (b := kx) (as := [.int 1]) (st := []) (rv := (some (.int (-1)))) (M2 := ((ab_up I kx_now_refused 1 ((I kx_now_refused 1) + 1)), L, ab_RR, n, nc, ns)) d_K_lay_71 ce_K_refuse v_574 v_576 v_10 (by decide) rfl (Nat.le_of_ble_eq_true rfl) (cx_K_refuse_0 1 hT (show (vp_in 1 3) from by unfold vp_in; decide) (show (vp_in 1 3) from by unfold vp_in; decide)) (Nat.le_refl _) (Nat.le_refl _) hc hs (fun j h9 => by cases h9) (fun _ _ => rfl) ?_
        show ab_E w (d + 1) mt_K_lay 74 [.ref kx, .int v1, .int v2, .int v3, .int v4, .ref kx_now_cables, .int 0, .null] [.int (-1)] ((ab_up I kx_now_refused 1 ((I kx_now_refused 1) + 1)), L, ab_RR, n, nc, ns) res
        exact ab_iret (ty := .int) d_K_lay_74 rfl rfl h
      · have h := h.2 c9
        by_cases c12 : (I kx_now_cables 0) ≤ v2
        · have h := h.1 c12
          refine ab_callV (me2 := mt_Cables_hasSite) (b := kx_now_cables) (as := [.int v2]) (st := []) (rv := (some (.int 0))) (M2 := (I, L, ab_RR, n, nc, ns)) d_K_lay_21 ce_Cables_hasSite v_633 v_634 v_635 (by decide) rfl (Nat.le_of_ble_eq_true rfl) (cx_Cables_hasSite_1 v2 hT c9 c12) (Nat.le_refl _) (Nat.le_refl _) hc hs (fun j h9 => by cases h9) (fun _ _ => rfl) ?_
          show ab_E w (d + 1) mt_K_lay 24 [.ref kx, .int v1, .int v2, .int v3, .int v4, .ref kx_now_cables, .null, .null] [.int 0] (I, L, ab_RR, n, nc, ns) res
          refine ab_if_eq (tgt := 61) d_K_lay_24 (by decide) (fun _ => ?_) (fun c9 => absurd (show (0 : Int32) = 0 from by decide) c9)
          refine ab_iconst (v := 0) d_K_lay_61 rfl ?_
          refine ab_istore (i := 6) d_K_lay_62 (by decide) (Or.inr rfl) ?_
          refine ab_iload (i := 6) d_K_lay_64 rfl ?_
          refine ab_if_ne (tgt := 75) d_K_lay_66 (by decide) (fun c9 => absurd (show (0 : Int32) = 0 from by decide) c9) (fun _ => ?_)
          refine ab_aload_n (i := 0) d_K_lay_69 rfl rfl ?_
          refine ab_iconst (v := 1) d_K_lay_70 rfl ?_
          refine ab_callV (me2 := mt_K_refuse) (b := kx) (as := [.int 1]) (st := []) (rv := (some (.int (-1)))) (M2 := ((ab_up I kx_now_refused 1 ((I kx_now_refused 1) + 1)), L, ab_RR, n, nc, ns)) d_K_lay_71 ce_K_refuse v_574 v_576 v_10 (by decide) rfl (Nat.le_of_ble_eq_true rfl) (cx_K_refuse_0 1 hT (show (vp_in 1 3) from by unfold vp_in; decide) (show (vp_in 1 3) from by unfold vp_in; decide)) (Nat.le_refl _) (Nat.le_refl _) hc hs (fun j h9 => by cases h9) (fun _ _ => rfl) ?_
          show ab_E w (d + 1) mt_K_lay 74 [.ref kx, .int v1, .int v2, .int v3, .int v4, .ref kx_now_cables, .int 0, .null] [.int (-1)] ((ab_up I kx_now_refused 1 ((I kx_now_refused 1) + 1)), L, ab_RR, n, nc, ns) res
          exact ab_iret (ty := .int) d_K_lay_74 rfl rfl h
        · have h := h.2 c12
          refine ab_callV (me2 := mt_Cables_hasSite) (b := kx_now_cables) (as := [.int v2]) (st := []) (rv := (some (.int 1))) (M2 := (I, L, ab_RR, n, nc, ns)) d_K_lay_21 ce_Cables_hasSite v_633 v_634 v_635 (by decide) rfl (Nat.le_of_ble_eq_true rfl) (cx_Cables_hasSite_2 v2 hT c9 c12) (Nat.le_refl _) (Nat.le_refl _) hc hs (fun j h9 => by cases h9) (fun _ _ => rfl) ?_
          show ab_E w (d + 1) mt_K_lay 24 [.ref kx, .int v1, .int v2, .int v3, .int v4, .ref kx_now_cables, .null, .null] [.int 1] (I, L, ab_RR, n, nc, ns) res
          refine ab_if_eq (tgt := 61) d_K_lay_24 (by decide) (fun c9 => absurd c9 (show ¬ (1 : Int32) = 0 from by decide)) (fun _ => ?_)
          refine ab_iload_n (i := 1) d_K_lay_27 rfl rfl ?_
          refine ab_iload_n (i := 2) d_K_lay_28 rfl rfl ?_
          refine ab_icmp_eq (tgt := 61) d_K_lay_29 (by decide) (fun c15 => ?_) (fun c15 => ?_)
          · have h := h.1 c15
            refine ab_iconst (v := 0) d_K_lay_61 rfl ?_
            refine ab_istore (i := 6) d_K_lay_62 (by decide) (Or.inr rfl) ?_
            refine ab_iload (i := 6) d_K_lay_64 rfl ?_
            refine ab_if_ne (tgt := 75) d_K_lay_66 (by decide) (fun c9 => absurd (show (0 : Int32) = 0 from by decide) c9) (fun _ => ?_)
            refine ab_aload_n (i := 0) d_K_lay_69 rfl rfl ?_
            refine ab_iconst (v := 1) d_K_lay_70 rfl ?_
            refine ab_callV (me2 := mt_K_refuse) (b := kx) (as := [.int 1]) (st := []) (rv := (some (.int (-1)))) (M2 := ((ab_up I kx_now_refused 1 ((I kx_now_refused 1) + 1)), L, ab_RR, n, nc, ns)) d_K_lay_71 ce_K_refuse v_574 v_576 v_10 (by decide) rfl (Nat.le_of_ble_eq_true rfl) (cx_K_refuse_0 1 hT (show (vp_in 1 3) from by unfold vp_in; decide) (show (vp_in 1 3) from by unfold vp_in; decide)) (Nat.le_refl _) (Nat.le_refl _) hc hs (fun j h9 => by cases h9) (fun _ _ => rfl) ?_
            show ab_E w (d + 1) mt_K_lay 74 [.ref kx, .int v1, .int v2, .int v3, .int v4, .ref kx_now_cables, .int 0, .null] [.int (-1)] ((ab_up I kx_now_refused 1 ((I kx_now_refused 1) + 1)), L, ab_RR, n, nc, ns) res
            exact ab_iret (ty := .int) d_K_lay_74 rfl rfl h
          · have h := h.2 c15
            refine ab_iload_n (i := 3) d_K_lay_32 rfl rfl ?_
            by_cases c19 : v3 < 1
            · have h := h.1 c19
              refine ab_callS (me2 := mt_K_isPrice) (as := [.int v3]) (st := []) (rv := (some (.int 0))) (M2 := (I, L, ab_RR, n, nc, ns)) d_K_lay_33 ce_K_isPrice ⟨v_572, Or.inl v_571⟩ (Nat.le_of_ble_eq_true rfl) (cx_K_isPrice_0 v3 hT c19) (Nat.le_refl _) (Nat.le_refl _) hc hs (fun j h9 => by cases h9) (fun _ _ => rfl) ?_
              show ab_E w (d + 1) mt_K_lay 36 [.ref kx, .int v1, .int v2, .int v3, .int v4, .ref kx_now_cables, .null, .null] [.int 0] (I, L, ab_RR, n, nc, ns) res
              refine ab_if_eq (tgt := 61) d_K_lay_36 (by decide) (fun _ => ?_) (fun c9 => absurd (show (0 : Int32) = 0 from by decide) c9)
              refine ab_iconst (v := 0) d_K_lay_61 rfl ?_
              refine ab_istore (i := 6) d_K_lay_62 (by decide) (Or.inr rfl) ?_
              refine ab_iload (i := 6) d_K_lay_64 rfl ?_
              refine ab_if_ne (tgt := 75) d_K_lay_66 (by decide) (fun c9 => absurd (show (0 : Int32) = 0 from by decide) c9) (fun _ => ?_)
              refine ab_aload_n (i := 0) d_K_lay_69 rfl rfl ?_
              refine ab_iconst (v := 1) d_K_lay_70 rfl ?_
              refine ab_callV (me2 := mt_K_refuse) (b := kx) (as := [.int 1]) (st := []) (rv := (some (.int (-1)))) (M2 := ((ab_up I kx_now_refused 1 ((I kx_now_refused 1) + 1)), L, ab_RR, n, nc, ns)) d_K_lay_71 ce_K_refuse v_574 v_576 v_10 (by decide) rfl (Nat.le_of_ble_eq_true rfl) (cx_K_refuse_0 1 hT (show (vp_in 1 3) from by unfold vp_in; decide) (show (vp_in 1 3) from by unfold vp_in; decide)) (Nat.le_refl _) (Nat.le_refl _) hc hs (fun j h9 => by cases h9) (fun _ _ => rfl) ?_
              show ab_E w (d + 1) mt_K_lay 74 [.ref kx, .int v1, .int v2, .int v3, .int v4, .ref kx_now_cables, .int 0, .null] [.int (-1)] ((ab_up I kx_now_refused 1 ((I kx_now_refused 1) + 1)), L, ab_RR, n, nc, ns) res
              exact ab_iret (ty := .int) d_K_lay_74 rfl rfl h
            · have h := h.2 c19
              by_cases c22 : 999 < v3
              · have h := h.1 c22
                refine ab_callS (me2 := mt_K_isPrice) (as := [.int v3]) (st := []) (rv := (some (.int 0))) (M2 := (I, L, ab_RR, n, nc, ns)) d_K_lay_33 ce_K_isPrice ⟨v_572, Or.inl v_571⟩ (Nat.le_of_ble_eq_true rfl) (cx_K_isPrice_1 v3 hT c19 c22) (Nat.le_refl _) (Nat.le_refl _) hc hs (fun j h9 => by cases h9) (fun _ _ => rfl) ?_
                show ab_E w (d + 1) mt_K_lay 36 [.ref kx, .int v1, .int v2, .int v3, .int v4, .ref kx_now_cables, .null, .null] [.int 0] (I, L, ab_RR, n, nc, ns) res
                refine ab_if_eq (tgt := 61) d_K_lay_36 (by decide) (fun _ => ?_) (fun c9 => absurd (show (0 : Int32) = 0 from by decide) c9)
                refine ab_iconst (v := 0) d_K_lay_61 rfl ?_
                refine ab_istore (i := 6) d_K_lay_62 (by decide) (Or.inr rfl) ?_
                refine ab_iload (i := 6) d_K_lay_64 rfl ?_
                refine ab_if_ne (tgt := 75) d_K_lay_66 (by decide) (fun c9 => absurd (show (0 : Int32) = 0 from by decide) c9) (fun _ => ?_)
                refine ab_aload_n (i := 0) d_K_lay_69 rfl rfl ?_
                refine ab_iconst (v := 1) d_K_lay_70 rfl ?_
                refine ab_callV (me2 := mt_K_refuse) (b := kx) (as := [.int 1]) (st := []) (rv := (some (.int (-1)))) (M2 := ((ab_up I kx_now_refused 1 ((I kx_now_refused 1) + 1)), L, ab_RR, n, nc, ns)) d_K_lay_71 ce_K_refuse v_574 v_576 v_10 (by decide) rfl (Nat.le_of_ble_eq_true rfl) (cx_K_refuse_0 1 hT (show (vp_in 1 3) from by unfold vp_in; decide) (show (vp_in 1 3) from by unfold vp_in; decide)) (Nat.le_refl _) (Nat.le_refl _) hc hs (fun j h9 => by cases h9) (fun _ _ => rfl) ?_
                show ab_E w (d + 1) mt_K_lay 74 [.ref kx, .int v1, .int v2, .int v3, .int v4, .ref kx_now_cables, .int 0, .null] [.int (-1)] ((ab_up I kx_now_refused 1 ((I kx_now_refused 1) + 1)), L, ab_RR, n, nc, ns) res
                exact ab_iret (ty := .int) d_K_lay_74 rfl rfl h
              · have h := h.2 c22
                refine ab_callS (me2 := mt_K_isPrice) (as := [.int v3]) (st := []) (rv := (some (.int 1))) (M2 := (I, L, ab_RR, n, nc, ns)) d_K_lay_33 ce_K_isPrice ⟨v_572, Or.inl v_571⟩ (Nat.le_of_ble_eq_true rfl) (cx_K_isPrice_2 v3 hT c19 c22) (Nat.le_refl _) (Nat.le_refl _) hc hs (fun j h9 => by cases h9) (fun _ _ => rfl) ?_
                show ab_E w (d + 1) mt_K_lay 36 [.ref kx, .int v1, .int v2, .int v3, .int v4, .ref kx_now_cables, .null, .null] [.int 1] (I, L, ab_RR, n, nc, ns) res
                refine ab_if_eq (tgt := 61) d_K_lay_36 (by decide) (fun c9 => absurd c9 (show ¬ (1 : Int32) = 0 from by decide)) (fun _ => ?_)
                refine ab_iload (i := 4) d_K_lay_39 rfl ?_
                by_cases c26 : v4 < 0
                · have h := h.1 c26
                  refine ab_callS (me2 := mt_K_isFirm) (as := [.int v4]) (st := []) (rv := (some (.int 0))) (M2 := (I, L, ab_RR, n, nc, ns)) d_K_lay_41 ce_K_isFirm ⟨v_611, Or.inl v_610⟩ (Nat.le_of_ble_eq_true rfl) (cx_K_isFirm_0 v4 hT c26) (Nat.le_refl _) (Nat.le_refl _) hc hs (fun j h9 => by cases h9) (fun _ _ => rfl) ?_
                  show ab_E w (d + 1) mt_K_lay 44 [.ref kx, .int v1, .int v2, .int v3, .int v4, .ref kx_now_cables, .null, .null] [.int 0] (I, L, ab_RR, n, nc, ns) res
                  refine ab_if_eq (tgt := 61) d_K_lay_44 (by decide) (fun _ => ?_) (fun c9 => absurd (show (0 : Int32) = 0 from by decide) c9)
                  refine ab_iconst (v := 0) d_K_lay_61 rfl ?_
                  refine ab_istore (i := 6) d_K_lay_62 (by decide) (Or.inr rfl) ?_
                  refine ab_iload (i := 6) d_K_lay_64 rfl ?_
                  refine ab_if_ne (tgt := 75) d_K_lay_66 (by decide) (fun c9 => absurd (show (0 : Int32) = 0 from by decide) c9) (fun _ => ?_)
                  refine ab_aload_n (i := 0) d_K_lay_69 rfl rfl ?_
                  refine ab_iconst (v := 1) d_K_lay_70 rfl ?_
                  refine ab_callV (me2 := mt_K_refuse) (b := kx) (as := [.int 1]) (st := []) (rv := (some (.int (-1)))) (M2 := ((ab_up I kx_now_refused 1 ((I kx_now_refused 1) + 1)), L, ab_RR, n, nc, ns)) d_K_lay_71 ce_K_refuse v_574 v_576 v_10 (by decide) rfl (Nat.le_of_ble_eq_true rfl) (cx_K_refuse_0 1 hT (show (vp_in 1 3) from by unfold vp_in; decide) (show (vp_in 1 3) from by unfold vp_in; decide)) (Nat.le_refl _) (Nat.le_refl _) hc hs (fun j h9 => by cases h9) (fun _ _ => rfl) ?_
                  show ab_E w (d + 1) mt_K_lay 74 [.ref kx, .int v1, .int v2, .int v3, .int v4, .ref kx_now_cables, .int 0, .null] [.int (-1)] ((ab_up I kx_now_refused 1 ((I kx_now_refused 1) + 1)), L, ab_RR, n, nc, ns) res
                  exact ab_iret (ty := .int) d_K_lay_74 rfl rfl h
                · have h := h.2 c26
                  by_cases c29 : 4 ≤ v4
                  · have h := h.1 c29
                    refine ab_callS (me2 := mt_K_isFirm) (as := [.int v4]) (st := []) (rv := (some (.int 0))) (M2 := (I, L, ab_RR, n, nc, ns)) d_K_lay_41 ce_K_isFirm ⟨v_611, Or.inl v_610⟩ (Nat.le_of_ble_eq_true rfl) (cx_K_isFirm_1 v4 hT c26 c29) (Nat.le_refl _) (Nat.le_refl _) hc hs (fun j h9 => by cases h9) (fun _ _ => rfl) ?_
                    show ab_E w (d + 1) mt_K_lay 44 [.ref kx, .int v1, .int v2, .int v3, .int v4, .ref kx_now_cables, .null, .null] [.int 0] (I, L, ab_RR, n, nc, ns) res
                    refine ab_if_eq (tgt := 61) d_K_lay_44 (by decide) (fun _ => ?_) (fun c9 => absurd (show (0 : Int32) = 0 from by decide) c9)
                    refine ab_iconst (v := 0) d_K_lay_61 rfl ?_
                    refine ab_istore (i := 6) d_K_lay_62 (by decide) (Or.inr rfl) ?_
                    refine ab_iload (i := 6) d_K_lay_64 rfl ?_
                    refine ab_if_ne (tgt := 75) d_K_lay_66 (by decide) (fun c9 => absurd (show (0 : Int32) = 0 from by decide) c9) (fun _ => ?_)
                    refine ab_aload_n (i := 0) d_K_lay_69 rfl rfl ?_
                    refine ab_iconst (v := 1) d_K_lay_70 rfl ?_
                    refine ab_callV (me2 := mt_K_refuse) (b := kx) (as := [.int 1]) (st := []) (rv := (some (.int (-1)))) (M2 := ((ab_up I kx_now_refused 1 ((I kx_now_refused 1) + 1)), L, ab_RR, n, nc, ns)) d_K_lay_71 ce_K_refuse v_574 v_576 v_10 (by decide) rfl (Nat.le_of_ble_eq_true rfl) (cx_K_refuse_0 1 hT (show (vp_in 1 3) from by unfold vp_in; decide) (show (vp_in 1 3) from by unfold vp_in; decide)) (Nat.le_refl _) (Nat.le_refl _) hc hs (fun j h9 => by cases h9) (fun _ _ => rfl) ?_
                    show ab_E w (d + 1) mt_K_lay 74 [.ref kx, .int v1, .int v2, .int v3, .int v4, .ref kx_now_cables, .int 0, .null] [.int (-1)] ((ab_up I kx_now_refused 1 ((I kx_now_refused 1) + 1)), L, ab_RR, n, nc, ns) res
                    exact ab_iret (ty := .int) d_K_lay_74 rfl rfl h
                  · have h := h.2 c29
                    refine ab_callS (me2 := mt_K_isFirm) (as := [.int v4]) (st := []) (rv := (some (.int 1))) (M2 := (I, L, ab_RR, n, nc, ns)) d_K_lay_41 ce_K_isFirm ⟨v_611, Or.inl v_610⟩ (Nat.le_of_ble_eq_true rfl) (cx_K_isFirm_2 v4 hT c26 c29) (Nat.le_refl _) (Nat.le_refl _) hc hs (fun j h9 => by cases h9) (fun _ _ => rfl) ?_
                    show ab_E w (d + 1) mt_K_lay 44 [.ref kx, .int v1, .int v2, .int v3, .int v4, .ref kx_now_cables, .null, .null] [.int 1] (I, L, ab_RR, n, nc, ns) res
                    refine ab_if_eq (tgt := 61) d_K_lay_44 (by decide) (fun c9 => absurd c9 (show ¬ (1 : Int32) = 0 from by decide)) (fun _ => ?_)
                    refine ab_aload (i := 5) d_K_lay_47 rfl ?_
                    refine ab_getI (ci := 1) (k := 1) d_K_lay_49 v_199 rfl (by decide) (by decide) rfl ?_
                    refine ab_bipush (v := 24) d_K_lay_52 rfl ?_
                    refine ab_icmp_ge (tgt := 61) d_K_lay_54 (by decide) (fun c32 => ?_) (fun c32 => ?_)
                    · have h := h.1 c32
                      refine ab_iconst (v := 0) d_K_lay_61 rfl ?_
                      refine ab_istore (i := 6) d_K_lay_62 (by decide) (Or.inr rfl) ?_
                      refine ab_iload (i := 6) d_K_lay_64 rfl ?_
                      refine ab_if_ne (tgt := 75) d_K_lay_66 (by decide) (fun c9 => absurd (show (0 : Int32) = 0 from by decide) c9) (fun _ => ?_)
                      refine ab_aload_n (i := 0) d_K_lay_69 rfl rfl ?_
                      refine ab_iconst (v := 1) d_K_lay_70 rfl ?_
                      refine ab_callV (me2 := mt_K_refuse) (b := kx) (as := [.int 1]) (st := []) (rv := (some (.int (-1)))) (M2 := ((ab_up I kx_now_refused 1 ((I kx_now_refused 1) + 1)), L, ab_RR, n, nc, ns)) d_K_lay_71 ce_K_refuse v_574 v_576 v_10 (by decide) rfl (Nat.le_of_ble_eq_true rfl) (cx_K_refuse_0 1 hT (show (vp_in 1 3) from by unfold vp_in; decide) (show (vp_in 1 3) from by unfold vp_in; decide)) (Nat.le_refl _) (Nat.le_refl _) hc hs (fun j h9 => by cases h9) (fun _ _ => rfl) ?_
                      show ab_E w (d + 1) mt_K_lay 74 [.ref kx, .int v1, .int v2, .int v3, .int v4, .ref kx_now_cables, .int 0, .null] [.int (-1)] ((ab_up I kx_now_refused 1 ((I kx_now_refused 1) + 1)), L, ab_RR, n, nc, ns) res
                      exact ab_iret (ty := .int) d_K_lay_74 rfl rfl h
                    · have h := h.2 c32
                      refine ab_iconst (v := 1) d_K_lay_57 rfl ?_
                      refine ab_goto (tgt := 62) d_K_lay_58 (by decide) ?_
                      refine ab_istore (i := 6) d_K_lay_62 (by decide) (Or.inr rfl) ?_
                      refine ab_iload (i := 6) d_K_lay_64 rfl ?_
                      refine ab_if_ne (tgt := 75) d_K_lay_66 (by decide) (fun _ => ?_) (fun c9 => absurd c9 (show ¬ (1 : Int32) = 0 from by decide))
                      refine ab_aload_n (i := 0) d_K_lay_75 rfl rfl ?_
                      refine ab_getR (ci := 10) (k := 3) (j := kx_now) d_K_lay_76 v_475 rfl (by decide) (by decide) rfl r_kx_3 ?_
                      obtain ⟨I36, hC, h⟩ := h
                      refine ab_callV (me2 := mt_State_keepAct) (b := kx_now) (as := []) (st := []) (rv := none) (M2 := (I36, L, ab_RR, n, nc, ns)) d_K_lay_79 ce_State_keepAct v_578 v_579 v_580 (by decide) rfl (Nat.le_of_ble_eq_true rfl) hC (Nat.le_refl _) (Nat.le_refl _) hc hs (fun j h9 => by cases h9) (fun _ _ => rfl) ?_
                      show ab_E w (d + 1) mt_K_lay 82 [.ref kx, .int v1, .int v2, .int v3, .int v4, .ref kx_now_cables, .int 1, .null] [] (I36, L, ab_RR, n, nc, ns) res
                      refine ab_aload (i := 5) d_K_lay_82 rfl ?_
                      refine ab_iload_n (i := 1) d_K_lay_84 rfl rfl ?_
                      refine ab_iload_n (i := 2) d_K_lay_85 rfl rfl ?_
                      refine ab_iload_n (i := 3) d_K_lay_86 rfl rfl ?_
                      refine ab_iload (i := 4) d_K_lay_87 rfl ?_
                      by_cases c39 : (I36 kx_now_cables 1) < 24
                      · have h := h.1 c39
                        have g40 := h.1; have h := h.2
                        refine ab_callV (me2 := mt_Cables_add) (b := kx_now_cables) (as := [.int v1, .int v2, .int v3, .int v4]) (st := []) (rv := (some (.int (((I36 kx_now_cables 1) + 1) - 1)))) (M2 := ((ab_up (ab_up (ab_up (ab_up (ab_up (ab_up I36 kx_now_cables_first (I36 kx_now_cables 1).toNatClampNeg v1) kx_now_cables_second (I36 kx_now_cables 1).toNatClampNeg v2) kx_now_cables_price (I36 kx_now_cables 1).toNatClampNeg v3) kx_now_cables_firm (I36 kx_now_cables 1).toNatClampNeg v4) kx_now_cables 2 ((I36 kx_now_cables 2) ||| ((1 : Int32) <<< ((I36 kx_now_cables 1) &&& 31)))) kx_now_cables 1 ((I36 kx_now_cables 1) + 1)), L, ab_RR, n, nc, ns)) d_K_lay_89 ce_Cables_add v_637 v_638 v_639 (by decide) rfl (Nat.le_of_ble_eq_true rfl) (cx_Cables_add_0_0 v1 v2 v3 v4 hT c39 g40 g40 g40 g40) (Nat.le_refl _) (Nat.le_refl _) hc hs (fun j h9 => by cases h9) (fun _ _ => rfl) ?_
                        show ab_E w (d + 1) mt_K_lay 92 [.ref kx, .int v1, .int v2, .int v3, .int v4, .ref kx_now_cables, .int 1, .null] [.int (((I36 kx_now_cables 1) + 1) - 1)] ((ab_up (ab_up (ab_up (ab_up (ab_up (ab_up I36 kx_now_cables_first (I36 kx_now_cables 1).toNatClampNeg v1) kx_now_cables_second (I36 kx_now_cables 1).toNatClampNeg v2) kx_now_cables_price (I36 kx_now_cables 1).toNatClampNeg v3) kx_now_cables_firm (I36 kx_now_cables 1).toNatClampNeg v4) kx_now_cables 2 ((I36 kx_now_cables 2) ||| ((1 : Int32) <<< ((I36 kx_now_cables 1) &&& 31)))) kx_now_cables 1 ((I36 kx_now_cables 1) + 1)), L, ab_RR, n, nc, ns) res
                        refine ab_istore (i := 7) d_K_lay_92 (by decide) (Or.inr rfl) ?_
                        refine ab_aload (i := 5) d_K_lay_94 rfl ?_
                        obtain ⟨I42, hC, h⟩ := h
                        refine ab_callV (me2 := mt_Cables_sort) (b := kx_now_cables) (as := []) (st := []) (rv := none) (M2 := (I42, L, ab_RR, n, nc, ns)) d_K_lay_96 ce_Cables_sort v_591 v_592 v_593 (by decide) rfl (Nat.le_of_ble_eq_true rfl) hC (Nat.le_refl _) (Nat.le_refl _) hc hs (fun j h9 => by cases h9) (fun _ _ => rfl) ?_
                        show ab_E w (d + 1) mt_K_lay 99 [.ref kx, .int v1, .int v2, .int v3, .int v4, .ref kx_now_cables, .int 1, .int (((I36 kx_now_cables 1) + 1) - 1)] [] (I42, L, ab_RR, n, nc, ns) res
                        refine ab_aload_n (i := 0) d_K_lay_99 rfl rfl ?_
                        refine ab_iconst (v := 5) d_K_lay_100 rfl ?_
                        refine ab_iload (i := 7) d_K_lay_101 rfl ?_
                        obtain ⟨I44, hC, h⟩ := h
                        refine ab_callV (me2 := mt_K_regrow) (b := kx) (as := [.int 5, .int (((I36 kx_now_cables 1) + 1) - 1)]) (st := []) (rv := none) (M2 := (I44, L, ab_RR, n, nc, ns)) d_K_lay_103 ce_K_regrow v_595 v_597 v_12 (by decide) rfl (Nat.le_of_ble_eq_true rfl) hC (Nat.le_refl _) (Nat.le_refl _) hc hs (fun j h9 => by cases h9) (fun _ _ => rfl) ?_
                        show ab_E w (d + 1) mt_K_lay 106 [.ref kx, .int v1, .int v2, .int v3, .int v4, .ref kx_now_cables, .int 1, .int (((I36 kx_now_cables 1) + 1) - 1)] [] (I44, L, ab_RR, n, nc, ns) res
                        refine ab_aload_n (i := 0) d_K_lay_106 rfl rfl ?_
                        refine ab_getR (ci := 10) (k := 7) (j := kx_ways) d_K_lay_107 v_479 rfl (by decide) (by decide) rfl r_kx_7 ?_
                        refine ab_aload (i := 5) d_K_lay_110 rfl ?_
                        refine ab_aload_n (i := 0) d_K_lay_112 rfl rfl ?_
                        refine ab_getR (ci := 10) (k := 6) (j := kx_forest) d_K_lay_113 v_478 rfl (by decide) (by decide) rfl r_kx_6 ?_
                        obtain ⟨I46, hC, h⟩ := h
                        refine ab_callV (me2 := mt_Ways_trace) (b := kx_ways) (as := [.ref kx_now_cables, .ref kx_forest]) (st := []) (rv := none) (M2 := (I46, L, ab_RR, n, nc, ns)) d_K_lay_116 ce_Ways_trace v_453 v_454 v_455 (by decide) rfl (Nat.le_of_ble_eq_true rfl) hC (Nat.le_refl _) (Nat.le_refl _) hc hs (fun j h9 => by cases h9) (fun _ _ => rfl) ?_
                        show ab_E w (d + 1) mt_K_lay 119 [.ref kx, .int v1, .int v2, .int v3, .int v4, .ref kx_now_cables, .int 1, .int (((I36 kx_now_cables 1) + 1) - 1)] [] (I46, L, ab_RR, n, nc, ns) res
                        refine ab_iload (i := 7) d_K_lay_119 rfl ?_
                        exact ab_iret (ty := .int) d_K_lay_121 rfl rfl h
                      · have h := h.2 c39
                        refine ab_callV (me2 := mt_Cables_add) (b := kx_now_cables) (as := [.int v1, .int v2, .int v3, .int v4]) (st := []) (rv := (some (.int (-1)))) (M2 := (I36, L, ab_RR, n, nc, ns)) d_K_lay_89 ce_Cables_add v_637 v_638 v_639 (by decide) rfl (Nat.le_of_ble_eq_true rfl) (cx_Cables_add_0_1 v1 v2 v3 v4 hT c39) (Nat.le_refl _) (Nat.le_refl _) hc hs (fun j h9 => by cases h9) (fun _ _ => rfl) ?_
                        show ab_E w (d + 1) mt_K_lay 92 [.ref kx, .int v1, .int v2, .int v3, .int v4, .ref kx_now_cables, .int 1, .null] [.int (-1)] (I36, L, ab_RR, n, nc, ns) res
                        refine ab_istore (i := 7) d_K_lay_92 (by decide) (Or.inr rfl) ?_
                        refine ab_aload (i := 5) d_K_lay_94 rfl ?_
                        obtain ⟨I48, hC, h⟩ := h
                        refine ab_callV (me2 := mt_Cables_sort) (b := kx_now_cables) (as := []) (st := []) (rv := none) (M2 := (I48, L, ab_RR, n, nc, ns)) d_K_lay_96 ce_Cables_sort v_591 v_592 v_593 (by decide) rfl (Nat.le_of_ble_eq_true rfl) hC (Nat.le_refl _) (Nat.le_refl _) hc hs (fun j h9 => by cases h9) (fun _ _ => rfl) ?_
                        show ab_E w (d + 1) mt_K_lay 99 [.ref kx, .int v1, .int v2, .int v3, .int v4, .ref kx_now_cables, .int 1, .int (-1)] [] (I48, L, ab_RR, n, nc, ns) res
                        refine ab_aload_n (i := 0) d_K_lay_99 rfl rfl ?_
                        refine ab_iconst (v := 5) d_K_lay_100 rfl ?_
                        refine ab_iload (i := 7) d_K_lay_101 rfl ?_
                        obtain ⟨I50, hC, h⟩ := h
                        refine ab_callV (me2 := mt_K_regrow) (b := kx) (as := [.int 5, .int (-1)]) (st := []) (rv := none) (M2 := (I50, L, ab_RR, n, nc, ns)) d_K_lay_103 ce_K_regrow v_595 v_597 v_12 (by decide) rfl (Nat.le_of_ble_eq_true rfl) hC (Nat.le_refl _) (Nat.le_refl _) hc hs (fun j h9 => by cases h9) (fun _ _ => rfl) ?_
                        show ab_E w (d + 1) mt_K_lay 106 [.ref kx, .int v1, .int v2, .int v3, .int v4, .ref kx_now_cables, .int 1, .int (-1)] [] (I50, L, ab_RR, n, nc, ns) res
                        refine ab_aload_n (i := 0) d_K_lay_106 rfl rfl ?_
                        refine ab_getR (ci := 10) (k := 7) (j := kx_ways) d_K_lay_107 v_479 rfl (by decide) (by decide) rfl r_kx_7 ?_
                        refine ab_aload (i := 5) d_K_lay_110 rfl ?_
                        refine ab_aload_n (i := 0) d_K_lay_112 rfl rfl ?_
                        refine ab_getR (ci := 10) (k := 6) (j := kx_forest) d_K_lay_113 v_478 rfl (by decide) (by decide) rfl r_kx_6 ?_
                        obtain ⟨I52, hC, h⟩ := h
                        refine ab_callV (me2 := mt_Ways_trace) (b := kx_ways) (as := [.ref kx_now_cables, .ref kx_forest]) (st := []) (rv := none) (M2 := (I52, L, ab_RR, n, nc, ns)) d_K_lay_116 ce_Ways_trace v_453 v_454 v_455 (by decide) rfl (Nat.le_of_ble_eq_true rfl) hC (Nat.le_refl _) (Nat.le_refl _) hc hs (fun j h9 => by cases h9) (fun _ _ => rfl) ?_
                        show ab_E w (d + 1) mt_K_lay 119 [.ref kx, .int v1, .int v2, .int v3, .int v4, .ref kx_now_cables, .int 1, .int (-1)] [] (I52, L, ab_RR, n, nc, ns) res
                        refine ab_iload (i := 7) d_K_lay_119 rfl ?_
                        exact ab_iret (ty := .int) d_K_lay_121 rfl rfl h
theorem r_K_undo_0 {w : ab_Wd} {d n nc ns : Nat} {I : Nat → Nat → Int32} {L : Nat → Nat → Int64} {res : ab_Re} (hT : w.1.stackTraces = false)  (hc : nc ≤ res.2.2.2.2.2.1) (hs : ns ≤ res.2.2.2.2.2.2)
    (h : ((¬ (I kx_now_acts 5) = 0 → (∃ (r2 : Int32) (I3 : Nat → Nat → Int32), ab_C w d mt_Acts_takeBack [.ref kx_now_acts, .ref kx_now_cables] (I, L, ab_RR, n, nc, ns) (.inl (some (.int r2)), (I3, L, ab_RR, n, nc, ns)) ∧ ∃ (I5 : Nat → Nat → Int32), ab_C w d mt_K_settle [.ref kx] ((ab_up I3 kx_now_swaps 1 r2), L, ab_RR, n, nc, ns) (.inl none, (I5, L, ab_RR, n, nc, ns)) ∧ res = (.inl (some (.int (I5 kx_now_acts 5))), (I5, L, ab_RR, n, nc, ns)))) ∧ ((I kx_now_acts 5) = 0 → (res = (.inl (some (.int (-1))), (I, L, ab_RR, n, nc, ns)))))) : ab_E w (d + 1) mt_K_undo 0 [.ref kx] [] (I, L, ab_RR, n, nc, ns) res := by
  refine ab_aload_n (i := 0) d_K_undo_0 rfl rfl ?_
  refine ab_getR (ci := 10) (k := 3) (j := kx_now) d_K_undo_1 v_475 rfl (by decide) (by decide) rfl r_kx_3 ?_
  refine ab_getR (ci := 6) (k := 2) (j := kx_now_acts) d_K_undo_4 v_298 rfl (by decide) (by decide) rfl r_kx_now_2 ?_
  refine ab_getI (ci := 0) (k := 5) d_K_undo_7 v_279 rfl (by decide) (by decide) rfl ?_
  refine ab_if_ne (tgt := 15) d_K_undo_10 (by decide) (fun c1 => ?_) (fun c1 => ?_)
  · have h := h.1 c1
    refine ab_aload_n (i := 0) d_K_undo_15 rfl rfl ?_
    refine ab_getR (ci := 10) (k := 3) (j := kx_now) d_K_undo_16 v_475 rfl (by decide) (by decide) rfl r_kx_3 ?_
    refine ab_getR (ci := 6) (k := 1) (j := kx_now_swaps) d_K_undo_19 v_296 rfl (by decide) (by decide) rfl r_kx_now_1 ?_
    refine ab_aload_n (i := 0) d_K_undo_22 rfl rfl ?_
    refine ab_getR (ci := 10) (k := 3) (j := kx_now) d_K_undo_23 v_475 rfl (by decide) (by decide) rfl r_kx_3 ?_
    refine ab_getR (ci := 6) (k := 2) (j := kx_now_acts) d_K_undo_26 v_298 rfl (by decide) (by decide) rfl r_kx_now_2 ?_
    refine ab_aload_n (i := 0) d_K_undo_29 rfl rfl ?_
    refine ab_getR (ci := 10) (k := 3) (j := kx_now) d_K_undo_30 v_475 rfl (by decide) (by decide) rfl r_kx_3 ?_
    refine ab_getR (ci := 6) (k := 0) (j := kx_now_cables) d_K_undo_33 v_294 rfl (by decide) (by decide) rfl r_kx_now_0 ?_
    obtain ⟨r2, I3, hC, h⟩ := h
    refine ab_callV (me2 := mt_Acts_takeBack) (b := kx_now_acts) (as := [.ref kx_now_cables]) (st := [.ref kx_now_swaps]) (rv := (some (.int r2))) (M2 := (I3, L, ab_RR, n, nc, ns)) d_K_undo_36 ce_Acts_takeBack v_645 v_646 v_647 (by decide) rfl (Nat.le_of_ble_eq_true rfl) hC (Nat.le_refl _) (Nat.le_refl _) hc hs (fun j h9 => by cases h9) (fun _ _ => rfl) ?_
    show ab_E w (d + 1) mt_K_undo 39 [.ref kx] [.int r2, .ref kx_now_swaps] (I3, L, ab_RR, n, nc, ns) res
    refine ab_putI (ci := 7) (k := 1) d_K_undo_39 v_261 rfl (by decide) (by decide) rfl (Or.inl rfl) rfl rfl ?_
    refine ab_aload_n (i := 0) d_K_undo_42 rfl rfl ?_
    obtain ⟨I5, hC, h⟩ := h
    refine ab_callV (me2 := mt_K_settle) (b := kx) (as := []) (st := []) (rv := none) (M2 := (I5, L, ab_RR, n, nc, ns)) d_K_undo_43 ce_K_settle v_436 v_438 v_0 (by decide) rfl (Nat.le_of_ble_eq_true rfl) hC (Nat.le_refl _) (Nat.le_refl _) hc hs (fun j h9 => by cases h9) (fun _ _ => rfl) ?_
    show ab_E w (d + 1) mt_K_undo 46 [.ref kx] [] (I5, L, ab_RR, n, nc, ns) res
    refine ab_aload_n (i := 0) d_K_undo_46 rfl rfl ?_
    refine ab_getR (ci := 10) (k := 3) (j := kx_now) d_K_undo_47 v_475 rfl (by decide) (by decide) rfl r_kx_3 ?_
    refine ab_getR (ci := 6) (k := 2) (j := kx_now_acts) d_K_undo_50 v_298 rfl (by decide) (by decide) rfl r_kx_now_2 ?_
    refine ab_getI (ci := 0) (k := 5) d_K_undo_53 v_279 rfl (by decide) (by decide) rfl ?_
    exact ab_iret (ty := .int) d_K_undo_56 rfl rfl h
  · have h := h.2 c1
    refine ab_iconst (v := (-1)) d_K_undo_13 rfl ?_
    exact ab_iret (ty := .int) d_K_undo_14 rfl rfl h
