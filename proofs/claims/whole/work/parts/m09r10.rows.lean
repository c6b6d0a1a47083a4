theorem r_M_endsAt_0 {w : ab_Wd} {d n nc ns : Nat} {I : Nat → Nat → Int32} {L : Nat → Nat → Int64} {res : ab_Re} (hT : w.1.stackTraces = false) (v1 : Int32) (v2 : Int32) (hc : nc ≤ res.2.2.2.2.2.1) (hs : ns ≤ res.2.2.2.2.2.2)
    (h : ab_E w (d + 1) mt_M_endsAt 5 [.ref mx, .int v1, .int v2, .int 0, .int 0] [] (I, L, ab_RR, n, nc, ns) res) : ab_E w (d + 1) mt_M_endsAt 0 [.ref mx, .int v1, .int v2, .null, .null] [] (I, L, ab_RR, n, nc, ns) res := by
  refine ab_iconst (v := 0) d_M_endsAt_0 rfl ?_
  refine ab_istore_n (i := 3) d_M_endsAt_1 rfl (by decide) (Or.inr rfl) ?_
  refine ab_iconst (v := 0) d_M_endsAt_2 rfl ?_
  refine ab_istore (i := 4) d_M_endsAt_3 (by decide) (Or.inr rfl) ?_
  exact h
theorem r_M_endsAt_5 {w : ab_Wd} {d n nc ns : Nat} {I : Nat → Nat → Int32} {L : Nat → Nat → Int64} {res : ab_Re} (hT : w.1.stackTraces = false) (v1 : Int32) (v2 : Int32) (v3 : Int32) (v4 : Int32) (hc : nc ≤ res.2.2.2.2.2.1) (hs : ns ≤ res.2.2.2.2.2.2)
    (h : (((I mx_now 0) ≤ v4 → (res = (.inl (some (.int v3)), (I, L, ab_RR, n, nc, ns)))) ∧ (¬ (I mx_now 0) ≤ v4 → ((((v1 >>> (v4 &&& 31)) &&& 1) = 1 → ((vp_in (3 + v4) 399) ∧ (((I mx_now (3 + v4).toNatClampNeg) = v2 → ((vp_in (27 + v4) 399) ∧ (((I mx_now (27 + v4).toNatClampNeg) = (-1) → (ab_E w (d + 1) mt_M_endsAt 5 [.ref mx, .int v1, .int v2, .int (v3 + 0), .int (v4 + 1)] [] (I, L, ab_RR, n, nc, ns) res)) ∧ (¬ (I mx_now (27 + v4).toNatClampNeg) = (-1) → (ab_E w (d + 1) mt_M_endsAt 5 [.ref mx, .int v1, .int v2, .int (v3 + 1), .int (v4 + 1)] [] (I, L, ab_RR, n, nc, ns) res))))) ∧ (¬ (I mx_now (3 + v4).toNatClampNeg) = v2 → ((vp_in (27 + v4) 399) ∧ (((I mx_now (27 + v4).toNatClampNeg) = v2 → (((I mx_now (3 + v4).toNatClampNeg) = (-1) → (ab_E w (d + 1) mt_M_endsAt 5 [.ref mx, .int v1, .int v2, .int (v3 + 0), .int (v4 + 1)] [] (I, L, ab_RR, n, nc, ns) res)) ∧ (¬ (I mx_now (3 + v4).toNatClampNeg) = (-1) → (ab_E w (d + 1) mt_M_endsAt 5 [.ref mx, .int v1, .int v2, .int (v3 + 1), .int (v4 + 1)] [] (I, L, ab_RR, n, nc, ns) res)))) ∧ (¬ (I mx_now (27 + v4).toNatClampNeg) = v2 → (ab_E w (d + 1) mt_M_endsAt 5 [.ref mx, .int v1, .int v2, .int (v3 + 0), .int (v4 + 1)] [] (I, L, ab_RR, n, nc, ns) res)))))))) ∧ (¬ ((v1 >>> (v4 &&& 31)) &&& 1) = 1 → (ab_E w (d + 1) mt_M_endsAt 5 [.ref mx, .int v1, .int v2, .int (v3 + 0), .int (v4 + 1)] [] (I, L, ab_RR, n, nc, ns) res)))))) : ab_E w (d + 1) mt_M_endsAt 5 [.ref mx, .int v1, .int v2, .int v3, .int v4] [] (I, L, ab_RR, n, nc, ns) res := by
  refine ab_iload (i := 4) d_M_endsAt_5 rfl ?_
  refine ab_aload_n (i := 0) d_M_endsAt_7 rfl rfl ?_
  refine ab_callV (me2 := mt_M_many) (b := mx) (as := []) (st := [.int v4]) (rv := (some (.int (I mx_now 0)))) (M2 := (I, L, ab_RR, n, nc, ns)) d_M_endsAt_8 ce_M_many v_1635 v_1637 v_79 (by decide) rfl (Nat.le_of_ble_eq_true rfl) (cx_M_many_0  hT (show (vp_in 0 399) from by unfold vp_in; decide)) (Nat.le_refl _) (Nat.le_refl _) hc hs (fun j h9 => by cases h9) (fun _ _ => rfl) ?_
  show ab_E w (d + 1) mt_M_endsAt 11 [.ref mx, .int v1, .int v2, .int v3, .int v4] [.int (I mx_now 0), .int v4] (I, L, ab_RR, n, nc, ns) res
  refine ab_icmp_ge (tgt := 48) d_M_endsAt_11 (by decide) (fun c2 => ?_) (fun c2 => ?_)
  · have h := h.1 c2
    refine ab_iload_n (i := 3) d_M_endsAt_48 rfl rfl ?_
    exact ab_iret (ty := .int) d_M_endsAt_49 rfl rfl h
  · have h := h.2 c2
    refine ab_iload_n (i := 3) d_M_endsAt_14 rfl rfl ?_
    refine ab_iload_n (i := 1) d_M_endsAt_15 rfl rfl ?_
    refine ab_iload (i := 4) d_M_endsAt_16 rfl ?_
    by_cases c4 : ((v1 >>> (v4 &&& 31)) &&& 1) = 1
    · have h := h.1 c4
      refine ab_callS (me2 := mt_M_has) (as := [.int v1, .int v4]) (st := [.int v3]) (rv := (some (.int 1))) (M2 := (I, L, ab_RR, n, nc, ns)) d_M_endsAt_18 ce_M_has ⟨v_1648, Or.inl v_1647⟩ (Nat.le_of_ble_eq_true rfl) (cx_M_has_1 v1 v4 hT c4) (Nat.le_refl _) (Nat.le_refl _) hc hs (fun j h9 => by cases h9) (fun _ _ => rfl) ?_
      show ab_E w (d + 1) mt_M_endsAt 21 [.ref mx, .int v1, .int v2, .int v3, .int v4] [.int 1, .int v3] (I, L, ab_RR, n, nc, ns) res
      refine ab_if_eq (tgt := 39) d_M_endsAt_21 (by decide) (fun c9 => absurd c9 (show ¬ (1 : Int32) = 0 from by decide)) (fun _ => ?_)
      refine ab_aload_n (i := 0) d_M_endsAt_24 rfl rfl ?_
      refine ab_iload (i := 4) d_M_endsAt_25 rfl ?_
      refine ab_iload_n (i := 2) d_M_endsAt_27 rfl rfl ?_
      have g6 := h.1; have h := h.2
      by_cases c7 : (I mx_now (3 + v4).toNatClampNeg) = v2
      · have h := h.1 c7
        have g8 := h.1; have h := h.2
        refine ab_callV (me2 := mt_M_otherEnd) (b := mx) (as := [.int v4, .int v2]) (st := [.int v3]) (rv := (some (.int (I mx_now (27 + v4).toNatClampNeg)))) (M2 := (I, L, ab_RR, n, nc, ns)) d_M_endsAt_28 ce_M_otherEnd v_1691 v_1693 v_92 (by decide) rfl (Nat.le_of_ble_eq_true rfl) (cx_M_otherEnd_2 v4 v2 hT g6 c7 g8) (Nat.le_refl _) (Nat.le_refl _) hc hs (fun j h9 => by cases h9) (fun _ _ => rfl) ?_
        show ab_E w (d + 1) mt_M_endsAt 31 [.ref mx, .int v1, .int v2, .int v3, .int v4] [.int (I mx_now (27 + v4).toNatClampNeg), .int v3] (I, L, ab_RR, n, nc, ns) res
        refine ab_iconst (v := (-1)) d_M_endsAt_31 rfl ?_
        refine ab_icmp_eq (tgt := 39) d_M_endsAt_32 (by decide) (fun c9 => ?_) (fun c9 => ?_)
        · have h := h.1 c9
          refine ab_iconst (v := 0) d_M_endsAt_39 rfl ?_
          refine ab_iadd d_M_endsAt_40 ?_
          refine ab_istore_n (i := 3) d_M_endsAt_41 rfl (by decide) (Or.inr rfl) ?_
          refine ab_iinc (i := 4) (v := (v4 + 1)) d_M_endsAt_42 rfl rfl (by decide) (Or.inr rfl) ?_
          refine ab_goto (tgt := 5) d_M_endsAt_45 (by decide) ?_
          exact h
        · have h := h.2 c9
          refine ab_iconst (v := 1) d_M_endsAt_35 rfl ?_
          refine ab_goto (tgt := 40) d_M_endsAt_36 (by decide) ?_
          refine ab_iadd d_M_endsAt_40 ?_
          refine ab_istore_n (i := 3) d_M_endsAt_41 rfl (by decide) (Or.inr rfl) ?_
          refine ab_iinc (i := 4) (v := (v4 + 1)) d_M_endsAt_42 rfl rfl (by decide) (Or.inr rfl) ?_
          refine ab_goto (tgt := 5) d_M_endsAt_45 (by decide) ?_
          exact h
      · have h := h.2 c7
        have g10 := h.1; have h := h.2
        by_cases c11 : (I mx_now (27 + v4).toNatClampNeg) = v2
        · have h := h.1 c11
          refine ab_callV (me2 := mt_M_otherEnd) (b := mx) (as := [.int v4, .int v2]) (st := [.int v3]) (rv := (some (.int (I mx_now (3 + v4).toNatClampNeg)))) (M2 := (I, L, ab_RR, n, nc, ns)) d_M_endsAt_28 ce_M_otherEnd v_1691 v_1693 v_92 (by decide) rfl (Nat.le_of_ble_eq_true rfl) (cx_M_otherEnd_1 v4 v2 hT g6 c7 g10 c11 g6) (Nat.le_refl _) (Nat.le_refl _) hc hs (fun j h9 => by cases h9) (fun _ _ => rfl) ?_
          show ab_E w (d + 1) mt_M_endsAt 31 [.ref mx, .int v1, .int v2, .int v3, .int v4] [.int (I mx_now (3 + v4).toNatClampNeg), .int v3] (I, L, ab_RR, n, nc, ns) res
          refine ab_iconst (v := (-1)) d_M_endsAt_31 rfl ?_
          refine ab_icmp_eq (tgt := 39) d_M_endsAt_32 (by decide) (fun c12 => ?_) (fun c12 => ?_)
          · have h := h.1 c12
            refine ab_iconst (v := 0) d_M_endsAt_39 rfl ?_
            refine ab_iadd d_M_endsAt_40 ?_
            refine ab_istore_n (i := 3) d_M_endsAt_41 rfl (by decide) (Or.inr rfl) ?_
            refine ab_iinc (i := 4) (v := (v4 + 1)) d_M_endsAt_42 rfl rfl (by decide) (Or.inr rfl) ?_
            refine ab_goto (tgt := 5) d_M_endsAt_45 (by decide) ?_
            exact h
          · have h := h.2 c12
            refine ab_iconst (v := 1) d_M_endsAt_35 rfl ?_
            refine ab_goto (tgt := 40) d_M_endsAt_36 (by decide) ?_
            refine ab_iadd d_M_endsAt_40 ?_
            refine ab_istore_n (i := 3) d_M_endsAt_41 rfl (by decide) (Or.inr rfl) ?_
            refine ab_iinc (i := 4) (v := (v4 + 1)) d_M_endsAt_42 rfl rfl (by decide) (Or.inr rfl) ?_
            refine ab_goto (tgt := 5) d_M_endsAt_45 (by decide) ?_
            exact h
        · have h := h.2 c11
          refine ab_callV (me2 := mt_M_otherEnd) (b := mx) (as := [.int v4, .int v2]) (st := [.int v3]) (rv := (some (.int (-1)))) (M2 := (I, L, ab_RR, n, nc, ns)) d_M_endsAt_28 ce_M_otherEnd v_1691 v_1693 v_92 (by decide) rfl (Nat.le_of_ble_eq_true rfl) (cx_M_otherEnd_0 v4 v2 hT g6 c7 g10 c11) (Nat.le_refl _) (Nat.le_refl _) hc hs (fun j h9 => by cases h9) (fun _ _ => rfl) ?_
          show ab_E w (d + 1) mt_M_endsAt 31 [.ref mx, .int v1, .int v2, .int v3, .int v4] [.int (-1), .int v3] (I, L, ab_RR, n, nc, ns) res
          refine ab_iconst (v := (-1)) d_M_endsAt_31 rfl ?_
          refine ab_icmp_eq (tgt := 39) d_M_endsAt_32 (by decide) (fun _ => ?_) (fun c9 => absurd (show ((-1) : Int32) = (-1) from by decide) c9)
          refine ab_iconst (v := 0) d_M_endsAt_39 rfl ?_
          refine ab_iadd d_M_endsAt_40 ?_
          refine ab_istore_n (i := 3) d_M_endsAt_41 rfl (by decide) (Or.inr rfl) ?_
          refine ab_iinc (i := 4) (v := (v4 + 1)) d_M_endsAt_42 rfl rfl (by decide) (Or.inr rfl) ?_
          refine ab_goto (tgt := 5) d_M_endsAt_45 (by decide) ?_
          exact h
    · have h := h.2 c4
      refine ab_callS (me2 := mt_M_has) (as := [.int v1, .int v4]) (st := [.int v3]) (rv := (some (.int 0))) (M2 := (I, L, ab_RR, n, nc, ns)) d_M_endsAt_18 ce_M_has ⟨v_1648, Or.inl v_1647⟩ (Nat.le_of_ble_eq_true rfl) (cx_M_has_0 v1 v4 hT c4) (Nat.le_refl _) (Nat.le_refl _) hc hs (fun j h9 => by cases h9) (fun _ _ => rfl) ?_
      show ab_E w (d + 1) mt_M_endsAt 21 [.ref mx, .int v1, .int v2, .int v3, .int v4] [.int 0, .int v3] (I, L, ab_RR, n, nc, ns) res
      refine ab_if_eq (tgt := 39) d_M_endsAt_21 (by decide) (fun _ => ?_) (fun c9 => absurd (show (0 : Int32) = 0 from by decide) c9)
      refine ab_iconst (v := 0) d_M_endsAt_39 rfl ?_
      refine ab_iadd d_M_endsAt_40 ?_
      refine ab_istore_n (i := 3) d_M_endsAt_41 rfl (by decide) (Or.inr rfl) ?_
      refine ab_iinc (i := 4) (v := (v4 + 1)) d_M_endsAt_42 rfl rfl (by decide) (Or.inr rfl) ?_
      refine ab_goto (tgt := 5) d_M_endsAt_45 (by decide) ?_
      exact h
theorem r_M_hub_0 {w : ab_Wd} {d n nc ns : Nat} {I : Nat → Nat → Int32} {L : Nat → Nat → Int64} {res : ab_Re} (hT : w.1.stackTraces = false)  (hc : nc ≤ res.2.2.2.2.2.1) (hs : ns ≤ res.2.2.2.2.2.2)
    (h : ∃ (r1 : Int32) (I2 : Nat → Nat → Int32), ab_C w d mt_M_netNow [.ref mx] (I, L, ab_RR, n, nc, ns) (.inl (some (.int r1)), (I2, L, ab_RR, n, nc, ns)) ∧ ab_E w (d + 1) mt_M_hub 9 [.ref mx, .int r1, .int 0, .int 1] [] (I2, L, ab_RR, n, nc, ns) res) : ab_E w (d + 1) mt_M_hub 0 [.ref mx, .null, .null, .null] [] (I, L, ab_RR, n, nc, ns) res := by
  refine ab_aload_n (i := 0) d_M_hub_0 rfl rfl ?_
  obtain ⟨r1, I2, hC, h⟩ := h
  refine ab_callV (me2 := mt_M_netNow) (b := mx) (as := []) (st := []) (rv := (some (.int r1))) (M2 := (I2, L, ab_RR, n, nc, ns)) d_M_hub_1 ce_M_netNow v_1639 v_1641 v_80 (by decide) rfl (Nat.le_of_ble_eq_true rfl) hC (Nat.le_refl _) (Nat.le_refl _) hc hs (fun j h9 => by cases h9) (fun _ _ => rfl) ?_
  show ab_E w (d + 1) mt_M_hub 4 [.ref mx, .null, .null, .null] [.int r1] (I2, L, ab_RR, n, nc, ns) res
  refine ab_istore_n (i := 1) d_M_hub_4 rfl (by decide) (Or.inr rfl) ?_
  refine ab_iconst (v := 0) d_M_hub_5 rfl ?_
  refine ab_istore_n (i := 2) d_M_hub_6 rfl (by decide) (Or.inr rfl) ?_
  refine ab_iconst (v := 1) d_M_hub_7 rfl ?_
  refine ab_istore_n (i := 3) d_M_hub_8 rfl (by decide) (Or.inr rfl) ?_
  exact h
theorem r_M_hub_9 {w : ab_Wd} {d n nc ns : Nat} {I : Nat → Nat → Int32} {L : Nat → Nat → Int64} {res : ab_Re} (hT : w.1.stackTraces = false) (v1 : Int32) (v2 : Int32) (v3 : Int32) (hc : nc ≤ res.2.2.2.2.2.1) (hs : ns ≤ res.2.2.2.2.2.2)
    (h : (((I mx 2) ≤ v3 → (res = (.inl (some (.int v2)), (I, L, ab_RR, n, nc, ns)))) ∧ (¬ (I mx 2) ≤ v3 → (∃ (r2 : Int32), ab_C w d mt_M_endsAt [.ref mx, .int v1, .int v3] (I, L, ab_RR, n, nc, ns) (.inl (some (.int r2)), (I, L, ab_RR, n, nc, ns)) ∧ ∃ (r3 : Int32), ab_C w d mt_M_endsAt [.ref mx, .int v1, .int v2] (I, L, ab_RR, n, nc, ns) (.inl (some (.int r3)), (I, L, ab_RR, n, nc, ns)) ∧ ((r2 ≤ r3 → (ab_E w (d + 1) mt_M_hub 9 [.ref mx, .int v1, .int v2, .int (v3 + 1)] [] (I, L, ab_RR, n, nc, ns) res)) ∧ (¬ r2 ≤ r3 → (ab_E w (d + 1) mt_M_hub 9 [.ref mx, .int v1, .int v3, .int (v3 + 1)] [] (I, L, ab_RR, n, nc, ns) res))))))) : ab_E w (d + 1) mt_M_hub 9 [.ref mx, .int v1, .int v2, .int v3] [] (I, L, ab_RR, n, nc, ns) res := by
  refine ab_iload_n (i := 3) d_M_hub_9 rfl rfl ?_
  refine ab_aload_n (i := 0) d_M_hub_10 rfl rfl ?_
  refine ab_getI (ci := 11) (k := 2) d_M_hub_11 v_1370 rfl (by decide) (by decide) rfl ?_
  refine ab_icmp_ge (tgt := 44) d_M_hub_14 (by decide) (fun c1 => ?_) (fun c1 => ?_)
  · have h := h.1 c1
    refine ab_iload_n (i := 2) d_M_hub_44 rfl rfl ?_
    exact ab_iret (ty := .int) d_M_hub_45 rfl rfl h
  · have h := h.2 c1
    refine ab_aload_n (i := 0) d_M_hub_17 rfl rfl ?_
    refine ab_iload_n (i := 1) d_M_hub_18 rfl rfl ?_
    refine ab_iload_n (i := 3) d_M_hub_19 rfl rfl ?_
    obtain ⟨r2, hC, h⟩ := h
    refine ab_callV (me2 := mt_M_endsAt) (b := mx) (as := [.int v1, .int v3]) (st := []) (rv := (some (.int r2))) (M2 := (I, L, ab_RR, n, nc, ns)) d_M_hub_20 ce_M_endsAt v_1703 v_1705 v_95 (by decide) rfl (Nat.le_of_ble_eq_true rfl) hC (Nat.le_refl _) (Nat.le_refl _) hc hs (fun j h9 => by cases h9) (fun _ _ => rfl) ?_
    show ab_E w (d + 1) mt_M_hub 23 [.ref mx, .int v1, .int v2, .int v3] [.int r2] (I, L, ab_RR, n, nc, ns) res
    refine ab_aload_n (i := 0) d_M_hub_23 rfl rfl ?_
    refine ab_iload_n (i := 1) d_M_hub_24 rfl rfl ?_
    refine ab_iload_n (i := 2) d_M_hub_25 rfl rfl ?_
    obtain ⟨r3, hC, h⟩ := h
    refine ab_callV (me2 := mt_M_endsAt) (b := mx) (as := [.int v1, .int v2]) (st := [.int r2]) (rv := (some (.int r3))) (M2 := (I, L, ab_RR, n, nc, ns)) d_M_hub_26 ce_M_endsAt v_1703 v_1705 v_95 (by decide) rfl (Nat.le_of_ble_eq_true rfl) hC (Nat.le_refl _) (Nat.le_refl _) hc hs (fun j h9 => by cases h9) (fun _ _ => rfl) ?_
    show ab_E w (d + 1) mt_M_hub 29 [.ref mx, .int v1, .int v2, .int v3] [.int r3, .int r2] (I, L, ab_RR, n, nc, ns) res
    refine ab_icmp_le (tgt := 36) d_M_hub_29 (by decide) (fun c4 => ?_) (fun c4 => ?_)
    · have h := h.1 c4
      refine ab_iload_n (i := 2) d_M_hub_36 rfl rfl ?_
      refine ab_istore_n (i := 2) d_M_hub_37 rfl (by decide) (Or.inr rfl) ?_
      refine ab_iinc (i := 3) (v := (v3 + 1)) d_M_hub_38 rfl rfl (by decide) (Or.inr rfl) ?_
      refine ab_goto (tgt := 9) d_M_hub_41 (by decide) ?_
      exact h
    · have h := h.2 c4
      refine ab_iload_n (i := 3) d_M_hub_32 rfl rfl ?_
      refine ab_goto (tgt := 37) d_M_hub_33 (by decide) ?_
      refine ab_istore_n (i := 2) d_M_hub_37 rfl (by decide) (Or.inr rfl) ?_
      refine ab_iinc (i := 3) (v := (v3 + 1)) d_M_hub_38 rfl rfl (by decide) (Or.inr rfl) ?_
      refine ab_goto (tgt := 9) d_M_hub_41 (by decide) ?_
      exact h
theorem r_M_longest_0 {w : ab_Wd} {d n nc ns : Nat} {I : Nat → Nat → Int32} {L : Nat → Nat → Int64} {res : ab_Re} (hT : w.1.stackTraces = false)  (hc : nc ≤ res.2.2.2.2.2.1) (hs : ns ≤ res.2.2.2.2.2.2)
    (h : ∃ (r1 : Int32) (I2 : Nat → Nat → Int32), ab_C w d mt_M_netNow [.ref mx] (I, L, ab_RR, n, nc, ns) (.inl (some (.int r1)), (I2, L, ab_RR, n, nc, ns)) ∧ ab_E w (d + 1) mt_M_longest 9 [.ref mx, .int r1, .int 0, .int 0, .null] [] (I2, L, ab_RR, n, nc, ns) res) : ab_E w (d + 1) mt_M_longest 0 [.ref mx, .null, .null, .null, .null] [] (I, L, ab_RR, n, nc, ns) res := by
  refine ab_aload_n (i := 0) d_M_longest_0 rfl rfl ?_
  obtain ⟨r1, I2, hC, h⟩ := h
  refine ab_callV (me2 := mt_M_netNow) (b := mx) (as := []) (st := []) (rv := (some (.int r1))) (M2 := (I2, L, ab_RR, n, nc, ns)) d_M_longest_1 ce_M_netNow v_1639 v_1641 v_80 (by decide) rfl (Nat.le_of_ble_eq_true rfl) hC (Nat.le_refl _) (Nat.le_refl _) hc hs (fun j h9 => by cases h9) (fun _ _ => rfl) ?_
  show ab_E w (d + 1) mt_M_longest 4 [.ref mx, .null, .null, .null, .null] [.int r1] (I2, L, ab_RR, n, nc, ns) res
  refine ab_istore_n (i := 1) d_M_longest_4 rfl (by decide) (Or.inr rfl) ?_
  refine ab_iconst (v := 0) d_M_longest_5 rfl ?_
  refine ab_istore_n (i := 2) d_M_longest_6 rfl (by decide) (Or.inr rfl) ?_
  refine ab_iconst (v := 0) d_M_longest_7 rfl ?_
  refine ab_istore_n (i := 3) d_M_longest_8 rfl (by decide) (Or.inr rfl) ?_
  exact h
theorem r_M_longest_9 {w : ab_Wd} {d n nc ns : Nat} {I : Nat → Nat → Int32} {L : Nat → Nat → Int64} {res : ab_Re} (hT : w.1.stackTraces = false) (v1 : Int32) (v2 : Int32) (v3 : Int32) (hc : nc ≤ res.2.2.2.2.2.1) (hs : ns ≤ res.2.2.2.2.2.2)
    (h : (((I mx 2) ≤ v3 → (res = (.inl (some (.int v2)), (I, L, ab_RR, n, nc, ns)))) ∧ (¬ (I mx 2) ≤ v3 → (ab_E w (d + 1) mt_M_longest 20 [.ref mx, .int v1, .int v2, .int v3, .int 0] [] (I, L, ab_RR, n, nc, ns) res)))) : ab_E w (d + 1) mt_M_longest 9 [.ref mx, .int v1, .int v2, .int v3, .null] [] (I, L, ab_RR, n, nc, ns) res := by
  refine ab_iload_n (i := 3) d_M_longest_9 rfl rfl ?_
  refine ab_aload_n (i := 0) d_M_longest_10 rfl rfl ?_
  refine ab_getI (ci := 11) (k := 2) d_M_longest_11 v_1370 rfl (by decide) (by decide) rfl ?_
  refine ab_icmp_ge (tgt := 59) d_M_longest_14 (by decide) (fun c1 => ?_) (fun c1 => ?_)
  · have h := h.1 c1
    refine ab_iload_n (i := 2) d_M_longest_59 rfl rfl ?_
    exact ab_iret (ty := .int) d_M_longest_60 rfl rfl h
  · have h := h.2 c1
    refine ab_iconst (v := 0) d_M_longest_17 rfl ?_
    refine ab_istore (i := 4) d_M_longest_18 (by decide) (Or.inr rfl) ?_
    exact h
theorem r_M_longest_20 {w : ab_Wd} {d n nc ns : Nat} {I : Nat → Nat → Int32} {L : Nat → Nat → Int64} {res : ab_Re} (hT : w.1.stackTraces = false) (v1 : Int32) (v2 : Int32) (v3 : Int32) (v4 : Int32) (hc : nc ≤ res.2.2.2.2.2.1) (hs : ns ≤ res.2.2.2.2.2.2)
    (h : ((v3 ≤ v4 → (ab_E w (d + 1) mt_M_longest 9 [.ref mx, .int v1, .int v2, .int (v3 + 1), .null] [] (I, L, ab_RR, n, nc, ns) res)) ∧ (¬ v3 ≤ v4 → (∃ (r2 : Int32) (I3 : Nat → Nat → Int32), ab_C w d mt_M_tellWay [.ref mx, .int v1, .int v3, .int v4] (I, L, ab_RR, n, nc, ns) (.inl (some (.int r2)), (I3, L, ab_RR, n, nc, ns)) ∧ ((r2 = (-1) → (ab_E w (d + 1) mt_M_longest 20 [.ref mx, .int v1, .int v2, .int v3, .int (v4 + 1)] [] (I3, L, ab_RR, n, nc, ns) res)) ∧ (¬ r2 = (-1) → (∃ (r5 : Int32), ab_C w d mt_M_pricesOnWay [.ref mx] (I3, L, ab_RR, n, nc, ns) (.inl (some (.int r5)), (I3, L, ab_RR, n, nc, ns)) ∧ ab_E w (d + 1) mt_M_longest 20 [.ref mx, .int v1, .int (ab_max32 v2 r5), .int v3, .int (v4 + 1)] [] (I3, L, ab_RR, n, nc, ns) res))))))) : ab_E w (d + 1) mt_M_longest 20 [.ref mx, .int v1, .int v2, .int v3, .int v4] [] (I, L, ab_RR, n, nc, ns) res := by
  refine ab_iload (i := 4) d_M_longest_20 rfl ?_
  refine ab_iload_n (i := 3) d_M_longest_22 rfl rfl ?_
  refine ab_icmp_ge (tgt := 53) d_M_longest_23 (by decide) (fun c1 => ?_) (fun c1 => ?_)
  · have h := h.1 c1
    refine ab_iinc (i := 3) (v := (v3 + 1)) d_M_longest_53 rfl rfl (by decide) (Or.inr rfl) ?_
    refine ab_goto (tgt := 9) d_M_longest_56 (by decide) ?_
    refine ab_drop 4 ?_
    exact h
  · have h := h.2 c1
    refine ab_aload_n (i := 0) d_M_longest_26 rfl rfl ?_
    refine ab_iload_n (i := 1) d_M_longest_27 rfl rfl ?_
    refine ab_iload_n (i := 3) d_M_longest_28 rfl rfl ?_
    refine ab_iload (i := 4) d_M_longest_29 rfl ?_
    obtain ⟨r2, I3, hC, h⟩ := h
    refine ab_callV (me2 := mt_M_tellWay) (b := mx) (as := [.int v1, .int v3, .int v4]) (st := []) (rv := (some (.int r2))) (M2 := (I3, L, ab_RR, n, nc, ns)) d_M_longest_31 ce_M_tellWay v_1687 v_1689 v_91 (by decide) rfl (Nat.le_of_ble_eq_true rfl) hC (Nat.le_refl _) (Nat.le_refl _) hc hs (fun j h9 => by cases h9) (fun _ _ => rfl) ?_
    show ab_E w (d + 1) mt_M_longest 34 [.ref mx, .int v1, .int v2, .int v3, .int v4] [.int r2] (I3, L, ab_RR, n, nc, ns) res
    refine ab_iconst (v := (-1)) d_M_longest_34 rfl ?_
    refine ab_icmp_eq (tgt := 47) d_M_longest_35 (by decide) (fun c4 => ?_) (fun c4 => ?_)
    · have h := h.1 c4
      refine ab_iinc (i := 4) (v := (v4 + 1)) d_M_longest_47 rfl rfl (by decide) (Or.inr rfl) ?_
      refine ab_goto (tgt := 20) d_M_longest_50 (by decide) ?_
      exact h
    · have h := h.2 c4
      refine ab_iload_n (i := 2) d_M_longest_38 rfl rfl ?_
      refine ab_aload_n (i := 0) d_M_longest_39 rfl rfl ?_
      obtain ⟨r5, hC, h⟩ := h
      refine ab_callV (me2 := mt_M_pricesOnWay) (b := mx) (as := []) (st := [.int v2]) (rv := (some (.int r5))) (M2 := (I3, L, ab_RR, n, nc, ns)) d_M_longest_40 ce_M_pricesOnWay v_1711 v_1713 v_97 (by decide) rfl (Nat.le_of_ble_eq_true rfl) hC (Nat.le_refl _) (Nat.le_refl _) hc hs (fun j h9 => by cases h9) (fun _ _ => rfl) ?_
      show ab_E w (d + 1) mt_M_longest 43 [.ref mx, .int v1, .int v2, .int v3, .int v4] [.int r5, .int v2] (I3, L, ab_RR, n, nc, ns) res
      refine ab_max d_M_longest_43 v_1662 v_451 v_150 v_452 (Nat.succ_le_succ (Nat.zero_le _)) (Nat.le_of_ble_eq_true rfl) hc hs ?_
      refine ab_istore_n (i := 2) d_M_longest_46 rfl (by decide) (Or.inr rfl) ?_
      refine ab_iinc (i := 4) (v := (v4 + 1)) d_M_longest_47 rfl rfl (by decide) (Or.inr rfl) ?_
      refine ab_goto (tgt := 20) d_M_longest_50 (by decide) ?_
      exact h
theorem r_M_twins_0 {w : ab_Wd} {d n nc ns : Nat} {I : Nat → Nat → Int32} {L : Nat → Nat → Int64} {res : ab_Re} (hT : w.1.stackTraces = false)  (hc : nc ≤ res.2.2.2.2.2.1) (hs : ns ≤ res.2.2.2.2.2.2)
    (h : ∃ (r1 : Int32) (I2 : Nat → Nat → Int32), ab_C w d mt_M_netNow [.ref mx] (I, L, ab_RR, n, nc, ns) (.inl (some (.int r1)), (I2, L, ab_RR, n, nc, ns)) ∧ ab_E w (d + 1) mt_M_twins 7 [.ref mx, .int r1, .int 0, .null] [] (I2, L, ab_RR, n, nc, ns) res) : ab_E w (d + 1) mt_M_twins 0 [.ref mx, .null, .null, .null] [] (I, L, ab_RR, n, nc, ns) res := by
  refine ab_aload_n (i := 0) d_M_twins_0 rfl rfl ?_
  obtain ⟨r1, I2, hC, h⟩ := h
  refine ab_callV (me2 := mt_M_netNow) (b := mx) (as := []) (st := []) (rv := (some (.int r1))) (M2 := (I2, L, ab_RR, n, nc, ns)) d_M_twins_1 ce_M_netNow v_1639 v_1641 v_80 (by decide) rfl (Nat.le_of_ble_eq_true rfl) hC (Nat.le_refl _) (Nat.le_refl _) hc hs (fun j h9 => by cases h9) (fun _ _ => rfl) ?_
  show ab_E w (d + 1) mt_M_twins 4 [.ref mx, .null, .null, .null] [.int r1] (I2, L, ab_RR, n, nc, ns) res
  refine ab_istore_n (i := 1) d_M_twins_4 rfl (by decide) (Or.inr rfl) ?_
  refine ab_iconst (v := 0) d_M_twins_5 rfl ?_
  refine ab_istore_n (i := 2) d_M_twins_6 rfl (by decide) (Or.inr rfl) ?_
  exact h
theorem r_M_twins_7 {w : ab_Wd} {d n nc ns : Nat} {I : Nat → Nat → Int32} {L : Nat → Nat → Int64} {res : ab_Re} (hT : w.1.stackTraces = false) (v1 : Int32) (v2 : Int32) (hc : nc ≤ res.2.2.2.2.2.1) (hs : ns ≤ res.2.2.2.2.2.2)
    (h : (((I mx_now 0) ≤ v2 → (∃ (r3 : Int32) (I4 : Nat → Nat → Int32), ab_C w d mt_M_netNow [.ref mx] (I, L, ab_RR, n, nc, ns) (.inl (some (.int r3)), (I4, L, ab_RR, n, nc, ns)) ∧ ab_E w (d + 1) mt_M_twins 57 [.ref mx, .int v1, .int r3, .int 0] [] (I4, L, ab_RR, n, nc, ns) res)) ∧ (¬ (I mx_now 0) ≤ v2 → ((vp_in (51 + v2) 399) ∧ (vp_in v2 24) ∧ ab_E w (d + 1) mt_M_twins 7 [.ref mx, .int v1, .int (v2 + 1), .null] [] ((ab_up (ab_up I mx_pricesThen v2.toNatClampNeg (I mx_now (51 + v2).toNatClampNeg)) mx_now (51 + v2).toNatClampNeg (1000 - (I mx_now (51 + v2).toNatClampNeg))), L, ab_RR, n, nc, ns) res)))) : ab_E w (d + 1) mt_M_twins 7 [.ref mx, .int v1, .int v2, .null] [] (I, L, ab_RR, n, nc, ns) res := by
  refine ab_iload_n (i := 2) d_M_twins_7 rfl rfl ?_
  refine ab_aload_n (i := 0) d_M_twins_8 rfl rfl ?_
  refine ab_callV (me2 := mt_M_many) (b := mx) (as := []) (st := [.int v2]) (rv := (some (.int (I mx_now 0)))) (M2 := (I, L, ab_RR, n, nc, ns)) d_M_twins_9 ce_M_many v_1635 v_1637 v_79 (by decide) rfl (Nat.le_of_ble_eq_true rfl) (cx_M_many_0  hT (show (vp_in 0 399) from by unfold vp_in; decide)) (Nat.le_refl _) (Nat.le_refl _) hc hs (fun j h9 => by cases h9) (fun _ _ => rfl) ?_
  show ab_E w (d + 1) mt_M_twins 12 [.ref mx, .int v1, .int v2, .null] [.int (I mx_now 0), .int v2] (I, L, ab_RR, n, nc, ns) res
  refine ab_icmp_ge (tgt := 50) d_M_twins_12 (by decide) (fun c2 => ?_) (fun c2 => ?_)
  · have h := h.1 c2
    refine ab_aload_n (i := 0) d_M_twins_50 rfl rfl ?_
    obtain ⟨r3, I4, hC, h⟩ := h
    refine ab_callV (me2 := mt_M_netNow) (b := mx) (as := []) (st := []) (rv := (some (.int r3))) (M2 := (I4, L, ab_RR, n, nc, ns)) d_M_twins_51 ce_M_netNow v_1639 v_1641 v_80 (by decide) rfl (Nat.le_of_ble_eq_true rfl) hC (Nat.le_refl _) (Nat.le_refl _) hc hs (fun j h9 => by cases h9) (fun _ _ => rfl) ?_
    show ab_E w (d + 1) mt_M_twins 54 [.ref mx, .int v1, .int v2, .null] [.int r3] (I4, L, ab_RR, n, nc, ns) res
    refine ab_istore_n (i := 2) d_M_twins_54 rfl (by decide) (Or.inr rfl) ?_
    refine ab_iconst (v := 0) d_M_twins_55 rfl ?_
    refine ab_istore_n (i := 3) d_M_twins_56 rfl (by decide) (Or.inr rfl) ?_
    exact h
  · have h := h.2 c2
    refine ab_aload_n (i := 0) d_M_twins_15 rfl rfl ?_
    refine ab_getR (ci := 11) (k := 27) (j := mx_pricesThen) d_M_twins_16 v_1395 rfl (by decide) (by decide) rfl r_mx_27 ?_
    refine ab_iload_n (i := 2) d_M_twins_19 rfl rfl ?_
    refine ab_aload_n (i := 0) d_M_twins_20 rfl rfl ?_
    refine ab_iload_n (i := 2) d_M_twins_21 rfl rfl ?_
    have g6 := h.1; have h := h.2
    refine ab_callV (me2 := mt_M_priceOf) (b := mx) (as := [.int v2]) (st := [.int v2, .ref mx_pricesThen]) (rv := (some (.int (I mx_now (51 + v2).toNatClampNeg)))) (M2 := (I, L, ab_RR, n, nc, ns)) d_M_twins_22 ce_M_priceOf v_1654 v_1656 v_83 (by decide) rfl (Nat.le_of_ble_eq_true rfl) (cx_M_priceOf_0 v2 hT g6) (Nat.le_refl _) (Nat.le_refl _) hc hs (fun j h9 => by cases h9) (fun _ _ => rfl) ?_
    show ab_E w (d + 1) mt_M_twins 25 [.ref mx, .int v1, .int v2, .null] [.int (I mx_now (51 + v2).toNatClampNeg), .int v2, .ref mx_pricesThen] (I, L, ab_RR, n, nc, ns) res
    have g7 := h.1; have h := h.2
    refine ab_iast d_M_twins_25 rfl rfl g7 ?_
    refine ab_aload_n (i := 0) d_M_twins_26 rfl rfl ?_
    refine ab_getR (ci := 11) (k := 4) (j := mx_now) d_M_twins_27 v_1372 rfl (by decide) (by decide) rfl r_mx_4 ?_
    refine ab_bipush (v := 51) d_M_twins_30 rfl ?_
    refine ab_iload_n (i := 2) d_M_twins_32 rfl rfl ?_
    refine ab_iadd d_M_twins_33 ?_
    refine ab_sipush (v := 1000) d_M_twins_34 rfl ?_
    refine ab_aload_n (i := 0) d_M_twins_37 rfl rfl ?_
    refine ab_iload_n (i := 2) d_M_twins_38 rfl rfl ?_
    refine ab_callV (me2 := mt_M_priceOf) (b := mx) (as := [.int v2]) (st := [.int 1000, .int (51 + v2), .ref mx_now]) (rv := (some (.int (I mx_now (51 + v2).toNatClampNeg)))) (M2 := ((ab_up I mx_pricesThen v2.toNatClampNeg (I mx_now (51 + v2).toNatClampNeg)), L, ab_RR, n, nc, ns)) d_M_twins_39 ce_M_priceOf v_1654 v_1656 v_83 (by decide) rfl (Nat.le_of_ble_eq_true rfl) (cx_M_priceOf_0 v2 hT g6) (Nat.le_refl _) (Nat.le_refl _) hc hs (fun j h9 => by cases h9) (fun _ _ => rfl) ?_
    show ab_E w (d + 1) mt_M_twins 42 [.ref mx, .int v1, .int v2, .null] [.int (I mx_now (51 + v2).toNatClampNeg), .int 1000, .int (51 + v2), .ref mx_now] ((ab_up I mx_pricesThen v2.toNatClampNeg (I mx_now (51 + v2).toNatClampNeg)), L, ab_RR, n, nc, ns) res
    refine ab_isub d_M_twins_42 ?_
    refine ab_iast d_M_twins_43 rfl rfl g6 ?_
    refine ab_iinc (i := 2) (v := (v2 + 1)) d_M_twins_44 rfl rfl (by decide) (Or.inr rfl) ?_
    refine ab_goto (tgt := 7) d_M_twins_47 (by decide) ?_
    exact h
theorem r_M_twins_57 {w : ab_Wd} {d n nc ns : Nat} {I : Nat → Nat → Int32} {L : Nat → Nat → Int64} {res : ab_Re} (hT : w.1.stackTraces = false) (v1 : Int32) (v2 : Int32) (v3 : Int32) (hc : nc ≤ res.2.2.2.2.2.1) (hs : ns ≤ res.2.2.2.2.2.2)
    (h : (((I mx_now 0) ≤ v3 → (res = (.inl (some (.int (v1 &&& v2))), (I, L, ab_RR, n, nc, ns)))) ∧ (¬ (I mx_now 0) ≤ v3 → ((vp_in v3 24) ∧ (vp_in (51 + v3) 399) ∧ ab_E w (d + 1) mt_M_twins 57 [.ref mx, .int v1, .int v2, .int (v3 + 1)] [] ((ab_up I mx_now (51 + v3).toNatClampNeg (I mx_pricesThen v3.toNatClampNeg)), L, ab_RR, n, nc, ns) res)))) : ab_E w (d + 1) mt_M_twins 57 [.ref mx, .int v1, .int v2, .int v3] [] (I, L, ab_RR, n, nc, ns) res := by
  refine ab_iload_n (i := 3) d_M_twins_57 rfl rfl ?_
  refine ab_aload_n (i := 0) d_M_twins_58 rfl rfl ?_
  refine ab_callV (me2 := mt_M_many) (b := mx) (as := []) (st := [.int v3]) (rv := (some (.int (I mx_now 0)))) (M2 := (I, L, ab_RR, n, nc, ns)) d_M_twins_59 ce_M_many v_1635 v_1637 v_79 (by decide) rfl (Nat.le_of_ble_eq_true rfl) (cx_M_many_0  hT (show (vp_in 0 399) from by unfold vp_in; decide)) (Nat.le_refl _) (Nat.le_refl _) hc hs (fun j h9 => by cases h9) (fun _ _ => rfl) ?_
  show ab_E w (d + 1) mt_M_twins 62 [.ref mx, .int v1, .int v2, .int v3] [.int (I mx_now 0), .int v3] (I, L, ab_RR, n, nc, ns) res
  refine ab_icmp_ge (tgt := 86) d_M_twins_62 (by decide) (fun c2 => ?_) (fun c2 => ?_)
  · have h := h.1 c2
    refine ab_iload_n (i := 1) d_M_twins_86 rfl rfl ?_
    refine ab_iload_n (i := 2) d_M_twins_87 rfl rfl ?_
    refine ab_iand d_M_twins_88 ?_
    exact ab_iret (ty := .int) d_M_twins_89 rfl rfl h
  · have h := h.2 c2
    refine ab_aload_n (i := 0) d_M_twins_65 rfl rfl ?_
    refine ab_getR (ci := 11) (k := 4) (j := mx_now) d_M_twins_66 v_1372 rfl (by decide) (by decide) rfl r_mx_4 ?_
    refine ab_bipush (v := 51) d_M_twins_69 rfl ?_
    refine ab_iload_n (i := 3) d_M_twins_71 rfl rfl ?_
    refine ab_iadd d_M_twins_72 ?_
    refine ab_aload_n (i := 0) d_M_twins_73 rfl rfl ?_
    refine ab_getR (ci := 11) (k := 27) (j := mx_pricesThen) d_M_twins_74 v_1395 rfl (by decide) (by decide) rfl r_mx_27 ?_
    refine ab_iload_n (i := 3) d_M_twins_77 rfl rfl ?_
    have g3 := h.1; have h := h.2
    refine ab_iald d_M_twins_78 rfl rfl g3 ?_
    have g4 := h.1; have h := h.2
    refine ab_iast d_M_twins_79 rfl rfl g4 ?_
    refine ab_iinc (i := 3) (v := (v3 + 1)) d_M_twins_80 rfl rfl (by decide) (Or.inr rfl) ?_
    refine ab_goto (tgt := 57) d_M_twins_83 (by decide) ?_
    exact h
theorem r_M_count_0 {w : ab_Wd} {d n nc ns : Nat} {I : Nat → Nat → Int32} {L : Nat → Nat → Int64} {res : ab_Re} (hT : w.1.stackTraces = false) (v1 : Int32) (hc : nc ≤ res.2.2.2.2.2.1) (hs : ns ≤ res.2.2.2.2.2.2)
    (h : ((v1 = 0 → (res = (.inl (some (.int (I mx 2))), ((ab_up I mx 1 0), L, ab_RR, n, nc, ns)))) ∧ (v1 = 1 → (res = (.inl (some (.int (I mx_now 0))), ((ab_up I mx 1 0), L, ab_RR, n, nc, ns)))) ∧ (v1 = 2 → (res = (.inl (some (.int (I mx_now 1))), ((ab_up I mx 1 0), L, ab_RR, n, nc, ns)))) ∧ (v1 = 3 → (∃ (r2 : Int32) (I3 : Nat → Nat → Int32), ab_C w d mt_M_netNow [.ref mx] ((ab_up I mx 1 0), L, ab_RR, n, nc, ns) (.inl (some (.int r2)), (I3, L, ab_RR, n, nc, ns)) ∧ res = (.inl (some (.int r2)), (I3, L, ab_RR, n, nc, ns)))) ∧ (v1 = 4 → (∃ (r4 : Int32) (I5 : Nat → Nat → Int32), ab_C w d mt_M_totalNow [.ref mx] ((ab_up I mx 1 0), L, ab_RR, n, nc, ns) (.inl (some (.int r4)), (I5, L, ab_RR, n, nc, ns)) ∧ res = (.inl (some (.int r4)), (I5, L, ab_RR, n, nc, ns)))) ∧ (v1 = 5 → (∃ (r6 : Int32) (I7 : Nat → Nat → Int32), ab_C w d mt_M_piecesNow [.ref mx] ((ab_up I mx 1 0), L, ab_RR, n, nc, ns) (.inl (some (.int r6)), (I7, L, ab_RR, n, nc, ns)) ∧ res = (.inl (some (.int r6)), (I7, L, ab_RR, n, nc, ns)))) ∧ (v1 = 6 → (res = (.inl (some (.int (ab_min32 60 (I mx_now 2)))), ((ab_up I mx 1 0), L, ab_RR, n, nc, ns)))) ∧ (v1 = 7 → (res = (.inl (some (.int (I mx_now 2))), ((ab_up I mx 1 0), L, ab_RR, n, nc, ns)))) ∧ (v1 = 8 → (∃ (r8 : Int32) (I9 : Nat → Nat → Int32), ab_C w d mt_M_nextBest [.ref mx] ((ab_up I mx 1 0), L, ab_RR, n, nc, ns) (.inl (some (.int r8)), (I9, L, ab_RR, n, nc, ns)) ∧ res = (.inl (some (.int r8)), (I9, L, ab_RR, n, nc, ns)))) ∧ (v1 = 9 → (∃ (r10 : Int32) (I11 : Nat → Nat → Int32), ab_C w d mt_M_hub [.ref mx] ((ab_up I mx 1 0), L, ab_RR, n, nc, ns) (.inl (some (.int r10)), (I11, L, ab_RR, n, nc, ns)) ∧ res = (.inl (some (.int r10)), (I11, L, ab_RR, n, nc, ns)))) ∧ (v1 = 10 → (∃ (r12 : Int32) (I13 : Nat → Nat → Int32), ab_C w d mt_M_longest [.ref mx] ((ab_up I mx 1 0), L, ab_RR, n, nc, ns) (.inl (some (.int r12)), (I13, L, ab_RR, n, nc, ns)) ∧ res = (.inl (some (.int r12)), (I13, L, ab_RR, n, nc, ns)))) ∧ (v1 = 11 → (∃ (r14 : Int32) (I15 : Nat → Nat → Int32), ab_C w d mt_M_twins [.ref mx] ((ab_up I mx 1 0), L, ab_RR, n, nc, ns) (.inl (some (.int r14)), (I15, L, ab_RR, n, nc, ns)) ∧ res = (.inl (some (.int r14)), (I15, L, ab_RR, n, nc, ns)))) ∧ (v1 = 12 → (res = (.inl (some (.int (I mx 41))), ((ab_up I mx 1 0), L, ab_RR, n, nc, ns)))) ∧ (v1 = 13 → (res = (.inl (some (.int (I mx 43))), ((ab_up I mx 1 0), L, ab_RR, n, nc, ns)))) ∧ (v1 = 14 → (res = (.inl (some (.int (I mx 8))), ((ab_up I mx 1 0), L, ab_RR, n, nc, ns)))) ∧ (v1 = 15 → ((vp_in (v1 - 15) 3) ∧ res = (.inl (some (.int (I mx_status (v1 - 15).toNatClampNeg))), ((ab_up I mx 1 0), L, ab_RR, n, nc, ns)))) ∧ (v1 = 16 → ((vp_in (v1 - 15) 3) ∧ res = (.inl (some (.int (I mx_status (v1 - 15).toNatClampNeg))), ((ab_up I mx 1 0), L, ab_RR, n, nc, ns)))) ∧ (v1 = 17 → ((vp_in (v1 - 15) 3) ∧ res = (.inl (some (.int (I mx_status (v1 - 15).toNatClampNeg))), ((ab_up I mx 1 0), L, ab_RR, n, nc, ns)))) ∧ (v1 = 18 → (∃ (I20 : Nat → Nat → Int32), ab_C w d mt_M_tellWeak [.ref mx] ((ab_up I mx 1 0), L, ab_RR, n, nc, ns) (.inl none, (I20, L, ab_RR, n, nc, ns)) ∧ ((¬ v1 = 18 → (res = (.inl (some (.int (I20 mx 32))), (I20, L, ab_RR, n, nc, ns)))) ∧ (v1 = 18 → (res = (.inl (some (.int (I20 mx 31))), (I20, L, ab_RR, n, nc, ns))))))) ∧ (v1 = 19 → (∃ (I23 : Nat → Nat → Int32), ab_C w d mt_M_tellWeak [.ref mx] ((ab_up I mx 1 0), L, ab_RR, n, nc, ns) (.inl none, (I23, L, ab_RR, n, nc, ns)) ∧ ((¬ v1 = 18 → (res = (.inl (some (.int (I23 mx 32))), (I23, L, ab_RR, n, nc, ns)))) ∧ (v1 = 18 → (res = (.inl (some (.int (I23 mx 31))), (I23, L, ab_RR, n, nc, ns))))))) ∧ (v1 = 20 → (∃ (r25 : Int32) (I26 : Nat → Nat → Int32), ab_C w d mt_M_centre [.ref mx] ((ab_up I mx 1 0), L, ab_RR, n, nc, ns) (.inl (some (.int r25)), (I26, L, ab_RR, n, nc, ns)) ∧ res = (.inl (some (.int r25)), (I26, L, ab_RR, n, nc, ns)))) ∧ (v1 = 21 → (∃ (r27 : Int32) (I28 : Nat → Nat → Int32), ab_C w d mt_M_netNow [.ref mx] ((ab_up I mx 1 0), L, ab_RR, n, nc, ns) (.inl (some (.int r27)), (I28, L, ab_RR, n, nc, ns)) ∧ ∃ (r29 : Int32) (I30 : Nat → Nat → Int32), ab_C w d mt_M_centre [.ref mx] (I28, L, ab_RR, n, nc, ns) (.inl (some (.int r29)), (I30, L, ab_RR, n, nc, ns)) ∧ ∃ (r31 : Int32) (I32 : Nat → Nat → Int32), ab_C w d mt_M_farthest [.ref mx, .int r27, .int r29] (I30, L, ab_RR, n, nc, ns) (.inl (some (.int r31)), (I32, L, ab_RR, n, nc, ns)) ∧ res = (.inl (some (.int r31)), (I32, L, ab_RR, n, nc, ns)))) ∧ (v1 = 22 → (∃ (r33 : Int32) (I34 : Nat → Nat → Int32), ab_C w d mt_M_detours [.ref mx] ((ab_up I mx 1 0), L, ab_RR, n, nc, ns) (.inl (some (.int r33)), (I34, L, ab_RR, n, nc, ns)) ∧ res = (.inl (some (.int r33)), (I34, L, ab_RR, n, nc, ns)))) ∧ ((v1.toInt < 0 ∨ 22 < v1.toInt) → (res = (.inl (some (.int 0)), ((ab_up (ab_up I mx 1 0) mx 1 1), L, ab_RR, n, nc, ns)))))) : ab_E w (d + 1) mt_M_count 0 [.ref mx, .int v1] [] (I, L, ab_RR, n, nc, ns) res := by
  refine ab_aload_n (i := 0) d_M_count_0 rfl rfl ?_
  refine ab_iconst (v := 0) d_M_count_1 rfl ?_
  refine ab_putI (ci := 11) (k := 1) d_M_count_2 v_1369 rfl (by decide) (by decide) rfl (Or.inl rfl) rfl rfl ?_
  refine ab_iload_n (i := 1) d_M_count_5 rfl rfl ?_
  by_cases c37 : v1 = 0
  · have h := h.1 c37
    refine ab_tabIn (tgt := 112) d_M_count_6 (by rw [c37]; decide) (by rw [c37]; decide) (by rw [ab_tab_in (j := 0) c37 (by decide)]; rfl) (by decide) ?_
    refine ab_aload_n (i := 0) d_M_count_112 rfl rfl ?_
    refine ab_getI (ci := 11) (k := 2) d_M_count_113 v_1370 rfl (by decide) (by decide) rfl ?_
    exact ab_iret (ty := .int) d_M_count_116 rfl rfl h
  by_cases c38 : v1 = 1
  · have h := h.2.1 c38
    refine ab_tabIn (tgt := 117) d_M_count_6 (by rw [c38]; decide) (by rw [c38]; decide) (by rw [ab_tab_in (j := 1) c38 (by decide)]; rfl) (by decide) ?_
    refine ab_aload_n (i := 0) d_M_count_117 rfl rfl ?_
    refine ab_callV (me2 := mt_M_many) (b := mx) (as := []) (st := []) (rv := (some (.int (I mx_now 0)))) (M2 := ((ab_up I mx 1 0), L, ab_RR, n, nc, ns)) d_M_count_118 ce_M_many v_1635 v_1637 v_79 (by decide) rfl (Nat.le_of_ble_eq_true rfl) (cx_M_many_0  hT (show (vp_in 0 399) from by unfold vp_in; decide)) (Nat.le_refl _) (Nat.le_refl _) hc hs (fun j h9 => by cases h9) (fun _ _ => rfl) ?_
    show ab_E w (d + 1) mt_M_count 121 [.ref mx, .int v1] [.int (I mx_now 0)] ((ab_up I mx 1 0), L, ab_RR, n, nc, ns) res
    exact ab_iret (ty := .int) d_M_count_121 rfl rfl h
  by_cases c39 : v1 = 2
  · have h := h.2.2.1 c39
    refine ab_tabIn (tgt := 122) d_M_count_6 (by rw [c39]; decide) (by rw [c39]; decide) (by rw [ab_tab_in (j := 2) c39 (by decide)]; rfl) (by decide) ?_
    refine ab_aload_n (i := 0) d_M_count_122 rfl rfl ?_
    refine ab_getR (ci := 11) (k := 4) (j := mx_now) d_M_count_123 v_1372 rfl (by decide) (by decide) rfl r_mx_4 ?_
    refine ab_iconst (v := 1) d_M_count_126 rfl ?_
    refine ab_iald d_M_count_127 rfl rfl (by unfold vp_in; decide) ?_
    exact ab_iret (ty := .int) d_M_count_128 rfl rfl h
  by_cases c40 : v1 = 3
  · have h := h.2.2.2.1 c40
    refine ab_tabIn (tgt := 129) d_M_count_6 (by rw [c40]; decide) (by rw [c40]; decide) (by rw [ab_tab_in (j := 3) c40 (by decide)]; rfl) (by decide) ?_
    refine ab_aload_n (i := 0) d_M_count_129 rfl rfl ?_
    obtain ⟨r2, I3, hC, h⟩ := h
    refine ab_callV (me2 := mt_M_netNow) (b := mx) (as := []) (st := []) (rv := (some (.int r2))) (M2 := (I3, L, ab_RR, n, nc, ns)) d_M_count_130 ce_M_netNow v_1639 v_1641 v_80 (by decide) rfl (Nat.le_of_ble_eq_true rfl) hC (Nat.le_refl _) (Nat.le_refl _) hc hs (fun j h9 => by cases h9) (fun _ _ => rfl) ?_
    show ab_E w (d + 1) mt_M_count 133 [.ref mx, .int v1] [.int r2] (I3, L, ab_RR, n, nc, ns) res
    exact ab_iret (ty := .int) d_M_count_133 rfl rfl h
  by_cases c41 : v1 = 4
  · have h := h.2.2.2.2.1 c41
    refine ab_tabIn (tgt := 134) d_M_count_6 (by rw [c41]; decide) (by rw [c41]; decide) (by rw [ab_tab_in (j := 4) c41 (by decide)]; rfl) (by decide) ?_
    refine ab_aload_n (i := 0) d_M_count_134 rfl rfl ?_
    obtain ⟨r4, I5, hC, h⟩ := h
    refine ab_callV (me2 := mt_M_totalNow) (b := mx) (as := []) (st := []) (rv := (some (.int r4))) (M2 := (I5, L, ab_RR, n, nc, ns)) d_M_count_135 ce_M_totalNow v_1663 v_1665 v_85 (by decide) rfl (Nat.le_of_ble_eq_true rfl) hC (Nat.le_refl _) (Nat.le_refl _) hc hs (fun j h9 => by cases h9) (fun _ _ => rfl) ?_
    show ab_E w (d + 1) mt_M_count 138 [.ref mx, .int v1] [.int r4] (I5, L, ab_RR, n, nc, ns) res
    exact ab_iret (ty := .int) d_M_count_138 rfl rfl h
  by_cases c42 : v1 = 5
  · have h := h.2.2.2.2.2.1 c42
    refine ab_tabIn (tgt := 139) d_M_count_6 (by rw [c42]; decide) (by rw [c42]; decide) (by rw [ab_tab_in (j := 5) c42 (by decide)]; rfl) (by decide) ?_
    refine ab_aload_n (i := 0) d_M_count_139 rfl rfl ?_
    obtain ⟨r6, I7, hC, h⟩ := h
    refine ab_callV (me2 := mt_M_piecesNow) (b := mx) (as := []) (st := []) (rv := (some (.int r6))) (M2 := (I7, L, ab_RR, n, nc, ns)) d_M_count_140 ce_M_piecesNow v_1667 v_1669 v_86 (by decide) rfl (Nat.le_of_ble_eq_true rfl) hC (Nat.le_refl _) (Nat.le_refl _) hc hs (fun j h9 => by cases h9) (fun _ _ => rfl) ?_
    show ab_E w (d + 1) mt_M_count 143 [.ref mx, .int v1] [.int r6] (I7, L, ab_RR, n, nc, ns) res
    exact ab_iret (ty := .int) d_M_count_143 rfl rfl h
  by_cases c43 : v1 = 6
  · have h := h.2.2.2.2.2.2.1 c43
    refine ab_tabIn (tgt := 144) d_M_count_6 (by rw [c43]; decide) (by rw [c43]; decide) (by rw [ab_tab_in (j := 6) c43 (by decide)]; rfl) (by decide) ?_
    refine ab_bipush (v := 60) d_M_count_144 rfl ?_
    refine ab_aload_n (i := 0) d_M_count_146 rfl rfl ?_
    refine ab_getR (ci := 11) (k := 4) (j := mx_now) d_M_count_147 v_1372 rfl (by decide) (by decide) rfl r_mx_4 ?_
    refine ab_iconst (v := 2) d_M_count_150 rfl ?_
    refine ab_iald d_M_count_151 rfl rfl (by unfold vp_in; decide) ?_
    refine ab_min d_M_count_152 v_1581 v_448 v_150 v_449 (Nat.succ_le_succ (Nat.zero_le _)) (Nat.le_of_ble_eq_true rfl) hc hs ?_
    exact ab_iret (ty := .int) d_M_count_155 rfl rfl h
  by_cases c44 : v1 = 7
  · have h := h.2.2.2.2.2.2.2.1 c44
    refine ab_tabIn (tgt := 156) d_M_count_6 (by rw [c44]; decide) (by rw [c44]; decide) (by rw [ab_tab_in (j := 7) c44 (by decide)]; rfl) (by decide) ?_
    refine ab_aload_n (i := 0) d_M_count_156 rfl rfl ?_
    refine ab_getR (ci := 11) (k := 4) (j := mx_now) d_M_count_157 v_1372 rfl (by decide) (by decide) rfl r_mx_4 ?_
    refine ab_iconst (v := 2) d_M_count_160 rfl ?_
    refine ab_iald d_M_count_161 rfl rfl (by unfold vp_in; decide) ?_
    exact ab_iret (ty := .int) d_M_count_162 rfl rfl h
  by_cases c45 : v1 = 8
  · have h := h.2.2.2.2.2.2.2.2.1 c45
    refine ab_tabIn (tgt := 163) d_M_count_6 (by rw [c45]; decide) (by rw [c45]; decide) (by rw [ab_tab_in (j := 8) c45 (by decide)]; rfl) (by decide) ?_
    refine ab_aload_n (i := 0) d_M_count_163 rfl rfl ?_
    obtain ⟨r8, I9, hC, h⟩ := h
    refine ab_callV (me2 := mt_M_nextBest) (b := mx) (as := []) (st := []) (rv := (some (.int r8))) (M2 := (I9, L, ab_RR, n, nc, ns)) d_M_count_164 ce_M_nextBest v_1675 v_1677 v_88 (by decide) rfl (Nat.le_of_ble_eq_true rfl) hC (Nat.le_refl _) (Nat.le_refl _) hc hs (fun j h9 => by cases h9) (fun _ _ => rfl) ?_
    show ab_E w (d + 1) mt_M_count 167 [.ref mx, .int v1] [.int r8] (I9, L, ab_RR, n, nc, ns) res
    exact ab_iret (ty := .int) d_M_count_167 rfl rfl h
  by_cases c46 : v1 = 9
  · have h := h.2.2.2.2.2.2.2.2.2.1 c46
    refine ab_tabIn (tgt := 168) d_M_count_6 (by rw [c46]; decide) (by rw [c46]; decide) (by rw [ab_tab_in (j := 9) c46 (by decide)]; rfl) (by decide) ?_
    refine ab_aload_n (i := 0) d_M_count_168 rfl rfl ?_
    obtain ⟨r10, I11, hC, h⟩ := h
    refine ab_callV (me2 := mt_M_hub) (b := mx) (as := []) (st := []) (rv := (some (.int r10))) (M2 := (I11, L, ab_RR, n, nc, ns)) d_M_count_169 ce_M_hub v_1699 v_1701 v_94 (by decide) rfl (Nat.le_of_ble_eq_true rfl) hC (Nat.le_refl _) (Nat.le_refl _) hc hs (fun j h9 => by cases h9) (fun _ _ => rfl) ?_
    show ab_E w (d + 1) mt_M_count 172 [.ref mx, .int v1] [.int r10] (I11, L, ab_RR, n, nc, ns) res
    exact ab_iret (ty := .int) d_M_count_172 rfl rfl h
  by_cases c47 : v1 = 10
  · have h := h.2.2.2.2.2.2.2.2.2.2.1 c47
    refine ab_tabIn (tgt := 173) d_M_count_6 (by rw [c47]; decide) (by rw [c47]; decide) (by rw [ab_tab_in (j := 10) c47 (by decide)]; rfl) (by decide) ?_
    refine ab_aload_n (i := 0) d_M_count_173 rfl rfl ?_
    obtain ⟨r12, I13, hC, h⟩ := h
    refine ab_callV (me2 := mt_M_longest) (b := mx) (as := []) (st := []) (rv := (some (.int r12))) (M2 := (I13, L, ab_RR, n, nc, ns)) d_M_count_174 ce_M_longest v_1707 v_1709 v_96 (by decide) rfl (Nat.le_of_ble_eq_true rfl) hC (Nat.le_refl _) (Nat.le_refl _) hc hs (fun j h9 => by cases h9) (fun _ _ => rfl) ?_
    show ab_E w (d + 1) mt_M_count 177 [.ref mx, .int v1] [.int r12] (I13, L, ab_RR, n, nc, ns) res
    exact ab_iret (ty := .int) d_M_count_177 rfl rfl h
  by_cases c48 : v1 = 11
  · have h := h.2.2.2.2.2.2.2.2.2.2.2.1 c48
    refine ab_tabIn (tgt := 178) d_M_count_6 (by rw [c48]; decide) (by rw [c48]; decide) (by rw [ab_tab_in (j := 11) c48 (by decide)]; rfl) (by decide) ?_
    refine ab_aload_n (i := 0) d_M_count_178 rfl rfl ?_
    obtain ⟨r14, I15, hC, h⟩ := h
    refine ab_callV (me2 := mt_M_twins) (b := mx) (as := []) (st := []) (rv := (some (.int r14))) (M2 := (I15, L, ab_RR, n, nc, ns)) d_M_count_179 ce_M_twins v_1715 v_1717 v_98 (by decide) rfl (Nat.le_of_ble_eq_true rfl) hC (Nat.le_refl _) (Nat.le_refl _) hc hs (fun j h9 => by cases h9) (fun _ _ => rfl) ?_
    show ab_E w (d + 1) mt_M_count 182 [.ref mx, .int v1] [.int r14] (I15, L, ab_RR, n, nc, ns) res
    exact ab_iret (ty := .int) d_M_count_182 rfl rfl h
  by_cases c49 : v1 = 12
  · have h := h.2.2.2.2.2.2.2.2.2.2.2.2.1 c49
    refine ab_tabIn (tgt := 183) d_M_count_6 (by rw [c49]; decide) (by rw [c49]; decide) (by rw [ab_tab_in (j := 12) c49 (by decide)]; rfl) (by decide) ?_
    refine ab_aload_n (i := 0) d_M_count_183 rfl rfl ?_
    refine ab_getI (ci := 11) (k := 41) d_M_count_184 v_1409 rfl (by decide) (by decide) rfl ?_
    exact ab_iret (ty := .int) d_M_count_187 rfl rfl h
  by_cases c50 : v1 = 13
  · have h := h.2.2.2.2.2.2.2.2.2.2.2.2.2.1 c50
    refine ab_tabIn (tgt := 188) d_M_count_6 (by rw [c50]; decide) (by rw [c50]; decide) (by rw [ab_tab_in (j := 13) c50 (by decide)]; rfl) (by decide) ?_
    refine ab_aload_n (i := 0) d_M_count_188 rfl rfl ?_
    refine ab_getI (ci := 11) (k := 43) d_M_count_189 v_1411 rfl (by decide) (by decide) rfl ?_
    exact ab_iret (ty := .int) d_M_count_192 rfl rfl h
  by_cases c51 : v1 = 14
  · have h := h.2.2.2.2.2.2.2.2.2.2.2.2.2.2.1 c51
    refine ab_tabIn (tgt := 193) d_M_count_6 (by rw [c51]; decide) (by rw [c51]; decide) (by rw [ab_tab_in (j := 14) c51 (by decide)]; rfl) (by decide) ?_
    refine ab_aload_n (i := 0) d_M_count_193 rfl rfl ?_
    refine ab_getI (ci := 11) (k := 8) d_M_count_194 v_1376 rfl (by decide) (by decide) rfl ?_
    exact ab_iret (ty := .int) d_M_count_197 rfl rfl h
  by_cases c52 : v1 = 15
  · have h := h.2.2.2.2.2.2.2.2.2.2.2.2.2.2.2.1 c52
    refine ab_tabIn (tgt := 198) d_M_count_6 (by rw [c52]; decide) (by rw [c52]; decide) (by rw [ab_tab_in (j := 15) c52 (by decide)]; rfl) (by decide) ?_
    refine ab_aload_n (i := 0) d_M_count_198 rfl rfl ?_
    refine ab_getR (ci := 11) (k := 6) (j := mx_status) d_M_count_199 v_1374 rfl (by decide) (by decide) rfl r_mx_6 ?_
    refine ab_iload_n (i := 1) d_M_count_202 rfl rfl ?_
    refine ab_bipush (v := 15) d_M_count_203 rfl ?_
    refine ab_isub d_M_count_205 ?_
    have g16 := h.1; have h := h.2
    refine ab_iald d_M_count_206 rfl rfl g16 ?_
    exact ab_iret (ty := .int) d_M_count_207 rfl rfl h
  by_cases c53 : v1 = 16
  · have h := h.2.2.2.2.2.2.2.2.2.2.2.2.2.2.2.2.1 c53
    refine ab_tabIn (tgt := 198) d_M_count_6 (by rw [c53]; decide) (by rw [c53]; decide) (by rw [ab_tab_in (j := 16) c53 (by decide)]; rfl) (by decide) ?_
    refine ab_aload_n (i := 0) d_M_count_198 rfl rfl ?_
    refine ab_getR (ci := 11) (k := 6) (j := mx_status) d_M_count_199 v_1374 rfl (by decide) (by decide) rfl r_mx_6 ?_
    refine ab_iload_n (i := 1) d_M_count_202 rfl rfl ?_
    refine ab_bipush (v := 15) d_M_count_203 rfl ?_
    refine ab_isub d_M_count_205 ?_
    have g17 := h.1; have h := h.2
    refine ab_iald d_M_count_206 rfl rfl g17 ?_
    exact ab_iret (ty := .int) d_M_count_207 rfl rfl h
  by_cases c54 : v1 = 17
  · have h := h.2.2.2.2.2.2.2.2.2.2.2.2.2.2.2.2.2.1 c54
    refine ab_tabIn (tgt := 198) d_M_count_6 (by rw [c54]; decide) (by rw [c54]; decide) (by rw [ab_tab_in (j := 17) c54 (by decide)]; rfl) (by decide) ?_
    refine ab_aload_n (i := 0) d_M_count_198 rfl rfl ?_
    refine ab_getR (ci := 11) (k := 6) (j := mx_status) d_M_count_199 v_1374 rfl (by decide) (by decide) rfl r_mx_6 ?_
    refine ab_iload_n (i := 1) d_M_count_202 rfl rfl ?_
    refine ab_bipush (v := 15) d_M_count_203 rfl ?_
    refine ab_isub d_M_count_205 ?_
    have g18 := h.1; have h := h.2
    refine ab_iald d_M_count_206 rfl rfl g18 ?_
    exact ab_iret (ty := .int) d_M_count_207 rfl rfl h
  by_cases c55 : v1 = 18
  · have h := h.2.2.2.2.2.2.2.2.2.2.2.2.2.2.2.2.2.2.1 c55
    refine ab_tabIn (tgt := 208) d_M_count_6 (by rw [c55]; decide) (by rw [c55]; decide) (by rw [ab_tab_in (j := 18) c55 (by decide)]; rfl) (by decide) ?_
    refine ab_aload_n (i := 0) d_M_count_208 rfl rfl ?_
    obtain ⟨I20, hC, h⟩ := h
    refine ab_callV (me2 := mt_M_tellWeak) (b := mx) (as := []) (st := []) (rv := none) (M2 := (I20, L, ab_RR, n, nc, ns)) d_M_count_209 ce_M_tellWeak v_1719 v_1721 v_99 (by decide) rfl (Nat.le_of_ble_eq_true rfl) hC (Nat.le_refl _) (Nat.le_refl _) hc hs (fun j h9 => by cases h9) (fun _ _ => rfl) ?_
    show ab_E w (d + 1) mt_M_count 212 [.ref mx, .int v1] [] (I20, L, ab_RR, n, nc, ns) res
    refine ab_iload_n (i := 1) d_M_count_212 rfl rfl ?_
    refine ab_bipush (v := 18) d_M_count_213 rfl ?_
    refine ab_icmp_ne (tgt := 225) d_M_count_215 (by decide) (fun c21 => ?_) (fun c21 => ?_)
    · have h := h.1 c21
      refine ab_aload_n (i := 0) d_M_count_225 rfl rfl ?_
      refine ab_getI (ci := 11) (k := 32) d_M_count_226 v_1400 rfl (by decide) (by decide) rfl ?_
      exact ab_iret (ty := .int) d_M_count_229 rfl rfl h
    · have h := h.2 c21
      refine ab_aload_n (i := 0) d_M_count_218 rfl rfl ?_
      refine ab_getI (ci := 11) (k := 31) d_M_count_219 v_1399 rfl (by decide) (by decide) rfl ?_
      refine ab_goto (tgt := 229) d_M_count_222 (by decide) ?_
      exact ab_iret (ty := .int) d_M_count_229 rfl rfl h
  by_cases c56 : v1 = 19
  · have h := h.2.2.2.2.2.2.2.2.2.2.2.2.2.2.2.2.2.2.2.1 c56
    refine ab_tabIn (tgt := 208) d_M_count_6 (by rw [c56]; decide) (by rw [c56]; decide) (by rw [ab_tab_in (j := 19) c56 (by decide)]; rfl) (by decide) ?_
    refine ab_aload_n (i := 0) d_M_count_208 rfl rfl ?_
    obtain ⟨I23, hC, h⟩ := h
    refine ab_callV (me2 := mt_M_tellWeak) (b := mx) (as := []) (st := []) (rv := none) (M2 := (I23, L, ab_RR, n, nc, ns)) d_M_count_209 ce_M_tellWeak v_1719 v_1721 v_99 (by decide) rfl (Nat.le_of_ble_eq_true rfl) hC (Nat.le_refl _) (Nat.le_refl _) hc hs (fun j h9 => by cases h9) (fun _ _ => rfl) ?_
    show ab_E w (d + 1) mt_M_count 212 [.ref mx, .int v1] [] (I23, L, ab_RR, n, nc, ns) res
    refine ab_iload_n (i := 1) d_M_count_212 rfl rfl ?_
    refine ab_bipush (v := 18) d_M_count_213 rfl ?_
    refine ab_icmp_ne (tgt := 225) d_M_count_215 (by decide) (fun c24 => ?_) (fun c24 => ?_)
    · have h := h.1 c24
      refine ab_aload_n (i := 0) d_M_count_225 rfl rfl ?_
      refine ab_getI (ci := 11) (k := 32) d_M_count_226 v_1400 rfl (by decide) (by decide) rfl ?_
      exact ab_iret (ty := .int) d_M_count_229 rfl rfl h
    · have h := h.2 c24
      refine ab_aload_n (i := 0) d_M_count_218 rfl rfl ?_
      refine ab_getI (ci := 11) (k := 31) d_M_count_219 v_1399 rfl (by decide) (by decide) rfl ?_
      refine ab_goto (tgt := 229) d_M_count_222 (by decide) ?_
      exact ab_iret (ty := .int) d_M_count_229 rfl rfl h
  by_cases c57 : v1 = 20
  · have h := h.2.2.2.2.2.2.2.2.2.2.2.2.2.2.2.2.2.2.2.2.1 c57
    refine ab_tabIn (tgt := 230) d_M_count_6 (by rw [c57]; decide) (by rw [c57]; decide) (by rw [ab_tab_in (j := 20) c57 (by decide)]; rfl) (by decide) ?_
    refine ab_aload_n (i := 0) d_M_count_230 rfl rfl ?_
    obtain ⟨r25, I26, hC, h⟩ := h
    refine ab_callV (me2 := mt_M_centre) (b := mx) (as := []) (st := []) (rv := (some (.int r25))) (M2 := (I26, L, ab_RR, n, nc, ns)) d_M_count_231 ce_M_centre v_1727 v_1729 v_101 (by decide) rfl (Nat.le_of_ble_eq_true rfl) hC (Nat.le_refl _) (Nat.le_refl _) hc hs (fun j h9 => by cases h9) (fun _ _ => rfl) ?_
    show ab_E w (d + 1) mt_M_count 234 [.ref mx, .int v1] [.int r25] (I26, L, ab_RR, n, nc, ns) res
    exact ab_iret (ty := .int) d_M_count_234 rfl rfl h
  by_cases c58 : v1 = 21
  · have h := h.2.2.2.2.2.2.2.2.2.2.2.2.2.2.2.2.2.2.2.2.2.1 c58
    refine ab_tabIn (tgt := 235) d_M_count_6 (by rw [c58]; decide) (by rw [c58]; decide) (by rw [ab_tab_in (j := 21) c58 (by decide)]; rfl) (by decide) ?_
    refine ab_aload_n (i := 0) d_M_count_235 rfl rfl ?_
    refine ab_aload_n (i := 0) d_M_count_236 rfl rfl ?_
    obtain ⟨r27, I28, hC, h⟩ := h
    refine ab_callV (me2 := mt_M_netNow) (b := mx) (as := []) (st := [.ref mx]) (rv := (some (.int r27))) (M2 := (I28, L, ab_RR, n, nc, ns)) d_M_count_237 ce_M_netNow v_1639 v_1641 v_80 (by decide) rfl (Nat.le_of_ble_eq_true rfl) hC (Nat.le_refl _) (Nat.le_refl _) hc hs (fun j h9 => by cases h9) (fun _ _ => rfl) ?_
    show ab_E w (d + 1) mt_M_count 240 [.ref mx, .int v1] [.int r27, .ref mx] (I28, L, ab_RR, n, nc, ns) res
    refine ab_aload_n (i := 0) d_M_count_240 rfl rfl ?_
    obtain ⟨r29, I30, hC, h⟩ := h
    refine ab_callV (me2 := mt_M_centre) (b := mx) (as := []) (st := [.int r27, .ref mx]) (rv := (some (.int r29))) (M2 := (I30, L, ab_RR, n, nc, ns)) d_M_count_241 ce_M_centre v_1727 v_1729 v_101 (by decide) rfl (Nat.le_of_ble_eq_true rfl) hC (Nat.le_refl _) (Nat.le_refl _) hc hs (fun j h9 => by cases h9) (fun _ _ => rfl) ?_
    show ab_E w (d + 1) mt_M_count 244 [.ref mx, .int v1] [.int r29, .int r27, .ref mx] (I30, L, ab_RR, n, nc, ns) res
    obtain ⟨r31, I32, hC, h⟩ := h
    refine ab_callV (me2 := mt_M_farthest) (b := mx) (as := [.int r27, .int r29]) (st := []) (rv := (some (.int r31))) (M2 := (I32, L, ab_RR, n, nc, ns)) d_M_count_244 ce_M_farthest v_1731 v_1733 v_102 (by decide) rfl (Nat.le_of_ble_eq_true rfl) hC (Nat.le_refl _) (Nat.le_refl _) hc hs (fun j h9 => by cases h9) (fun _ _ => rfl) ?_
    show ab_E w (d + 1) mt_M_count 247 [.ref mx, .int v1] [.int r31] (I32, L, ab_RR, n, nc, ns) res
    exact ab_iret (ty := .int) d_M_count_247 rfl rfl h
  by_cases c59 : v1 = 22
  · have h := h.2.2.2.2.2.2.2.2.2.2.2.2.2.2.2.2.2.2.2.2.2.2.1 c59
    refine ab_tabIn (tgt := 248) d_M_count_6 (by rw [c59]; decide) (by rw [c59]; decide) (by rw [ab_tab_in (j := 22) c59 (by decide)]; rfl) (by decide) ?_
    refine ab_aload_n (i := 0) d_M_count_248 rfl rfl ?_
    obtain ⟨r33, I34, hC, h⟩ := h
    refine ab_callV (me2 := mt_M_detours) (b := mx) (as := []) (st := []) (rv := (some (.int r33))) (M2 := (I34, L, ab_RR, n, nc, ns)) d_M_count_249 ce_M_detours v_1735 v_1737 v_103 (by decide) rfl (Nat.le_of_ble_eq_true rfl) hC (Nat.le_refl _) (Nat.le_refl _) hc hs (fun j h9 => by cases h9) (fun _ _ => rfl) ?_
    show ab_E w (d + 1) mt_M_count 252 [.ref mx, .int v1] [.int r33] (I34, L, ab_RR, n, nc, ns) res
    exact ab_iret (ty := .int) d_M_count_252 rfl rfl h
  have hr : v1.toInt < 0 ∨ 22 < v1.toInt := by
    rcases Int.lt_or_le v1.toInt 0 with h9 | h9
    · exact Or.inl h9
    · refine Or.inr (Int.not_le.mp fun h8 => ?_)
      exact ab_tab_out (lo := 0) (hi := 22) (k := 23) h9 h8 (by decide) (by
        intro j hj
        match j, hj with
        | 0, _ => exact c37
        | 1, _ => exact c38
        | 2, _ => exact c39
        | 3, _ => exact c40
        | 4, _ => exact c41
        | 5, _ => exact c42
        | 6, _ => exact c43
        | 7, _ => exact c44
        | 8, _ => exact c45
        | 9, _ => exact c46
        | 10, _ => exact c47
        | 11, _ => exact c48
        | 12, _ => exact c49
        | 13, _ => exact c50
        | 14, _ => exact c51
        | 15, _ => exact c52
        | 16, _ => exact c53
        | 17, _ => exact c54
        | 18, _ => exact c55
        | 19, _ => exact c56
        | 20, _ => exact c57
        | 21, _ => exact c58
        | 22, _ => exact c59
        | j9 + 23, hj => exact absurd hj (by omega))
  have h := h.2.2.2.2.2.2.2.2.2.2.2.2.2.2.2.2.2.2.2.2.2.2.2 hr
  refine ab_tabOut (tgt := 253) d_M_count_6 hr (by decide) ?_
  refine ab_aload_n (i := 0) d_M_count_253 rfl rfl ?_
  refine ab_iconst (v := 1) d_M_count_254 rfl ?_
  refine ab_callV (me2 := mt_M_fail) (b := mx) (as := [.int 1]) (st := []) (rv := (some (.int 0))) (M2 := ((ab_up (ab_up I mx 1 0) mx 1 1), L, ab_RR, n, nc, ns)) d_M_count_255 ce_M_fail v_1562 v_1564 v_66 (by decide) rfl (Nat.le_of_ble_eq_true rfl) (cx_M_fail_0 1 hT) (Nat.le_refl _) (Nat.le_refl _) hc hs (fun j h9 => by cases h9) (fun _ _ => rfl) ?_
  show ab_E w (d + 1) mt_M_count 258 [.ref mx, .int v1] [.int 0] ((ab_up (ab_up I mx 1 0) mx 1 1), L, ab_RR, n, nc, ns) res
  exact ab_iret (ty := .int) d_M_count_258 rfl rfl h
theorem r_M_farthest_0 {w : ab_Wd} {d n nc ns : Nat} {I : Nat → Nat → Int32} {L : Nat → Nat → Int64} {res : ab_Re} (hT : w.1.stackTraces = false) (v1 : Int32) (v2 : Int32) (hc : nc ≤ res.2.2.2.2.2.1) (hs : ns ≤ res.2.2.2.2.2.2)
    (h : ab_E w (d + 1) mt_M_farthest 5 [.ref mx, .int v1, .int v2, .int 0, .int 0] [] (I, L, ab_RR, n, nc, ns) res) : ab_E w (d + 1) mt_M_farthest 0 [.ref mx, .int v1, .int v2, .null, .null] [] (I, L, ab_RR, n, nc, ns) res := by
  refine ab_iconst (v := 0) d_M_farthest_0 rfl ?_
  refine ab_istore_n (i := 3) d_M_farthest_1 rfl (by decide) (Or.inr rfl) ?_
  refine ab_iconst (v := 0) d_M_farthest_2 rfl ?_
  refine ab_istore (i := 4) d_M_farthest_3 (by decide) (Or.inr rfl) ?_
  exact h
theorem r_M_farthest_5 {w : ab_Wd} {d n nc ns : Nat} {I : Nat → Nat → Int32} {L : Nat → Nat → Int64} {res : ab_Re} (hT : w.1.stackTraces = false) (v1 : Int32) (v2 : Int32) (v3 : Int32) (v4 : Int32) (hc : nc ≤ res.2.2.2.2.2.1) (hs : ns ≤ res.2.2.2.2.2.2)
    (h : (((I mx 2) ≤ v4 → (res = (.inl (some (.int v3)), (I, L, ab_RR, n, nc, ns)))) ∧ (¬ (I mx 2) ≤ v4 → (∃ (r2 : Int32) (I3 : Nat → Nat → Int32), ab_C w d mt_M_tellWay [.ref mx, .int v1, .int v2, .int v4] (I, L, ab_RR, n, nc, ns) (.inl (some (.int r2)), (I3, L, ab_RR, n, nc, ns)) ∧ ((r2 = (-1) → (ab_E w (d + 1) mt_M_farthest 5 [.ref mx, .int v1, .int v2, .int v3, .int (v4 + 1)] [] (I3, L, ab_RR, n, nc, ns) res)) ∧ (¬ r2 = (-1) → (∃ (r5 : Int32), ab_C w d mt_M_pricesOnWay [.ref mx] (I3, L, ab_RR, n, nc, ns) (.inl (some (.int r5)), (I3, L, ab_RR, n, nc, ns)) ∧ ab_E w (d + 1) mt_M_farthest 5 [.ref mx, .int v1, .int v2, .int (ab_max32 v3 r5), .int (v4 + 1)] [] (I3, L, ab_RR, n, nc, ns) res))))))) : ab_E w (d + 1) mt_M_farthest 5 [.ref mx, .int v1, .int v2, .int v3, .int v4] [] (I, L, ab_RR, n, nc, ns) res := by
  refine ab_iload (i := 4) d_M_farthest_5 rfl ?_
  refine ab_aload_n (i := 0) d_M_farthest_7 rfl rfl ?_
  refine ab_getI (ci := 11) (k := 2) d_M_farthest_8 v_1370 rfl (by decide) (by decide) rfl ?_
  refine ab_icmp_ge (tgt := 41) d_M_farthest_11 (by decide) (fun c1 => ?_) (fun c1 => ?_)
  · have h := h.1 c1
    refine ab_iload_n (i := 3) d_M_farthest_41 rfl rfl ?_
    exact ab_iret (ty := .int) d_M_farthest_42 rfl rfl h
  · have h := h.2 c1
    refine ab_aload_n (i := 0) d_M_farthest_14 rfl rfl ?_
    refine ab_iload_n (i := 1) d_M_farthest_15 rfl rfl ?_
    refine ab_iload_n (i := 2) d_M_farthest_16 rfl rfl ?_
    refine ab_iload (i := 4) d_M_farthest_17 rfl ?_
    obtain ⟨r2, I3, hC, h⟩ := h
    refine ab_callV (me2 := mt_M_tellWay) (b := mx) (as := [.int v1, .int v2, .int v4]) (st := []) (rv := (some (.int r2))) (M2 := (I3, L, ab_RR, n, nc, ns)) d_M_farthest_19 ce_M_tellWay v_1687 v_1689 v_91 (by decide) rfl (Nat.le_of_ble_eq_true rfl) hC (Nat.le_refl _) (Nat.le_refl _) hc hs (fun j h9 => by cases h9) (fun _ _ => rfl) ?_
    show ab_E w (d + 1) mt_M_farthest 22 [.ref mx, .int v1, .int v2, .int v3, .int v4] [.int r2] (I3, L, ab_RR, n, nc, ns) res
    refine ab_iconst (v := (-1)) d_M_farthest_22 rfl ?_
    refine ab_icmp_eq (tgt := 35) d_M_farthest_23 (by decide) (fun c4 => ?_) (fun c4 => ?_)
    · have h := h.1 c4
      refine ab_iinc (i := 4) (v := (v4 + 1)) d_M_farthest_35 rfl rfl (by decide) (Or.inr rfl) ?_
      refine ab_goto (tgt := 5) d_M_farthest_38 (by decide) ?_
      exact h
    · have h := h.2 c4
      refine ab_iload_n (i := 3) d_M_farthest_26 rfl rfl ?_
      refine ab_aload_n (i := 0) d_M_farthest_27 rfl rfl ?_
      obtain ⟨r5, hC, h⟩ := h
      refine ab_callV (me2 := mt_M_pricesOnWay) (b := mx) (as := []) (st := [.int v3]) (rv := (some (.int r5))) (M2 := (I3, L, ab_RR, n, nc, ns)) d_M_farthest_28 ce_M_pricesOnWay v_1711 v_1713 v_97 (by decide) rfl (Nat.le_of_ble_eq_true rfl) hC (Nat.le_refl _) (Nat.le_refl _) hc hs (fun j h9 => by cases h9) (fun _ _ => rfl) ?_
      show ab_E w (d + 1) mt_M_farthest 31 [.ref mx, .int v1, .int v2, .int v3, .int v4] [.int r5, .int v3] (I3, L, ab_RR, n, nc, ns) res
      refine ab_max d_M_farthest_31 v_1662 v_451 v_150 v_452 (Nat.succ_le_succ (Nat.zero_le _)) (Nat.le_of_ble_eq_true rfl) hc hs ?_
      refine ab_istore_n (i := 3) d_M_farthest_34 rfl (by decide) (Or.inr rfl) ?_
      refine ab_iinc (i := 4) (v := (v4 + 1)) d_M_farthest_35 rfl rfl (by decide) (Or.inr rfl) ?_
      refine ab_goto (tgt := 5) d_M_farthest_38 (by decide) ?_
      exact h
theorem r_M_centre_0 {w : ab_Wd} {d n nc ns : Nat} {I : Nat → Nat → Int32} {L : Nat → Nat → Int64} {res : ab_Re} (hT : w.1.stackTraces = false)  (hc : nc ≤ res.2.2.2.2.2.1) (hs : ns ≤ res.2.2.2.2.2.2)
    (h : ∃ (r1 : Int32) (I2 : Nat → Nat → Int32), ab_C w d mt_M_netNow [.ref mx] (I, L, ab_RR, n, nc, ns) (.inl (some (.int r1)), (I2, L, ab_RR, n, nc, ns)) ∧ ab_E w (d + 1) mt_M_centre 9 [.ref mx, .int r1, .int 0, .int 1] [] (I2, L, ab_RR, n, nc, ns) res) : ab_E w (d + 1) mt_M_centre 0 [.ref mx, .null, .null, .null] [] (I, L, ab_RR, n, nc, ns) res := by
  refine ab_aload_n (i := 0) d_M_centre_0 rfl rfl ?_
  obtain ⟨r1, I2, hC, h⟩ := h
  refine ab_callV (me2 := mt_M_netNow) (b := mx) (as := []) (st := []) (rv := (some (.int r1))) (M2 := (I2, L, ab_RR, n, nc, ns)) d_M_centre_1 ce_M_netNow v_1639 v_1641 v_80 (by decide) rfl (Nat.le_of_ble_eq_true rfl) hC (Nat.le_refl _) (Nat.le_refl _) hc hs (fun j h9 => by cases h9) (fun _ _ => rfl) ?_
  show ab_E w (d + 1) mt_M_centre 4 [.ref mx, .null, .null, .null] [.int r1] (I2, L, ab_RR, n, nc, ns) res
  refine ab_istore_n (i := 1) d_M_centre_4 rfl (by decide) (Or.inr rfl) ?_
  refine ab_iconst (v := 0) d_M_centre_5 rfl ?_
  refine ab_istore_n (i := 2) d_M_centre_6 rfl (by decide) (Or.inr rfl) ?_
  refine ab_iconst (v := 1) d_M_centre_7 rfl ?_
  refine ab_istore_n (i := 3) d_M_centre_8 rfl (by decide) (Or.inr rfl) ?_
  exact h
theorem r_M_centre_9 {w : ab_Wd} {d n nc ns : Nat} {I : Nat → Nat → Int32} {L : Nat → Nat → Int64} {res : ab_Re} (hT : w.1.stackTraces = false) (v1 : Int32) (v2 : Int32) (v3 : Int32) (hc : nc ≤ res.2.2.2.2.2.1) (hs : ns ≤ res.2.2.2.2.2.2)
    (h : (((I mx 2) ≤ v3 → (res = (.inl (some (.int v2)), (I, L, ab_RR, n, nc, ns)))) ∧ (¬ (I mx 2) ≤ v3 → (∃ (r2 : Int32) (I3 : Nat → Nat → Int32), ab_C w d mt_M_farthest [.ref mx, .int v1, .int v3] (I, L, ab_RR, n, nc, ns) (.inl (some (.int r2)), (I3, L, ab_RR, n, nc, ns)) ∧ ∃ (r4 : Int32) (I5 : Nat → Nat → Int32), ab_C w d mt_M_farthest [.ref mx, .int v1, .int v2] (I3, L, ab_RR, n, nc, ns) (.inl (some (.int r4)), (I5, L, ab_RR, n, nc, ns)) ∧ ((r4 ≤ r2 → (ab_E w (d + 1) mt_M_centre 9 [.ref mx, .int v1, .int v2, .int (v3 + 1)] [] (I5, L, ab_RR, n, nc, ns) res)) ∧ (¬ r4 ≤ r2 → (ab_E w (d + 1) mt_M_centre 9 [.ref mx, .int v1, .int v3, .int (v3 + 1)] [] (I5, L, ab_RR, n, nc, ns) res))))))) : ab_E w (d + 1) mt_M_centre 9 [.ref mx, .int v1, .int v2, .int v3] [] (I, L, ab_RR, n, nc, ns) res := by
  refine ab_iload_n (i := 3) d_M_centre_9 rfl rfl ?_
  refine ab_aload_n (i := 0) d_M_centre_10 rfl rfl ?_
  refine ab_getI (ci := 11) (k := 2) d_M_centre_11 v_1370 rfl (by decide) (by decide) rfl ?_
  refine ab_icmp_ge (tgt := 44) d_M_centre_14 (by decide) (fun c1 => ?_) (fun c1 => ?_)
  · have h := h.1 c1
    refine ab_iload_n (i := 2) d_M_centre_44 rfl rfl ?_
    exact ab_iret (ty := .int) d_M_centre_45 rfl rfl h
  · have h := h.2 c1
    refine ab_aload_n (i := 0) d_M_centre_17 rfl rfl ?_
    refine ab_iload_n (i := 1) d_M_centre_18 rfl rfl ?_
    refine ab_iload_n (i := 3) d_M_centre_19 rfl rfl ?_
    obtain ⟨r2, I3, hC, h⟩ := h
    refine ab_callV (me2 := mt_M_farthest) (b := mx) (as := [.int v1, .int v3]) (st := []) (rv := (some (.int r2))) (M2 := (I3, L, ab_RR, n, nc, ns)) d_M_centre_20 ce_M_farthest v_1731 v_1733 v_102 (by decide) rfl (Nat.le_of_ble_eq_true rfl) hC (Nat.le_refl _) (Nat.le_refl _) hc hs (fun j h9 => by cases h9) (fun _ _ => rfl) ?_
    show ab_E w (d + 1) mt_M_centre 23 [.ref mx, .int v1, .int v2, .int v3] [.int r2] (I3, L, ab_RR, n, nc, ns) res
    refine ab_aload_n (i := 0) d_M_centre_23 rfl rfl ?_
    refine ab_iload_n (i := 1) d_M_centre_24 rfl rfl ?_
    refine ab_iload_n (i := 2) d_M_centre_25 rfl rfl ?_
    obtain ⟨r4, I5, hC, h⟩ := h
    refine ab_callV (me2 := mt_M_farthest) (b := mx) (as := [.int v1, .int v2]) (st := [.int r2]) (rv := (some (.int r4))) (M2 := (I5, L, ab_RR, n, nc, ns)) d_M_centre_26 ce_M_farthest v_1731 v_1733 v_102 (by decide) rfl (Nat.le_of_ble_eq_true rfl) hC (Nat.le_refl _) (Nat.le_refl _) hc hs (fun j h9 => by cases h9) (fun _ _ => rfl) ?_
    show ab_E w (d + 1) mt_M_centre 29 [.ref mx, .int v1, .int v2, .int v3] [.int r4, .int r2] (I5, L, ab_RR, n, nc, ns) res
    refine ab_icmp_ge (tgt := 36) d_M_centre_29 (by decide) (fun c6 => ?_) (fun c6 => ?_)
    · have h := h.1 c6
      refine ab_iload_n (i := 2) d_M_centre_36 rfl rfl ?_
      refine ab_istore_n (i := 2) d_M_centre_37 rfl (by decide) (Or.inr rfl) ?_
      refine ab_iinc (i := 3) (v := (v3 + 1)) d_M_centre_38 rfl rfl (by decide) (Or.inr rfl) ?_
      refine ab_goto (tgt := 9) d_M_centre_41 (by decide) ?_
      exact h
    · have h := h.2 c6
      refine ab_iload_n (i := 3) d_M_centre_32 rfl rfl ?_
      refine ab_goto (tgt := 37) d_M_centre_33 (by decide) ?_
      refine ab_istore_n (i := 2) d_M_centre_37 rfl (by decide) (Or.inr rfl) ?_
      refine ab_iinc (i := 3) (v := (v3 + 1)) d_M_centre_38 rfl rfl (by decide) (Or.inr rfl) ?_
      refine ab_goto (tgt := 9) d_M_centre_41 (by decide) ?_
      exact h
theorem r_M_tellNear_0 {w : ab_Wd} {d n nc ns : Nat} {I : Nat → Nat → Int32} {L : Nat → Nat → Int64} {res : ab_Re} (hT : w.1.stackTraces = false) (v1 : Int32) (hc : nc ≤ res.2.2.2.2.2.1) (hs : ns ≤ res.2.2.2.2.2.2)
    (h : ab_E w (d + 1) mt_M_tellNear 2 [.ref mx, .int v1, .int 0, .null, .null, .null] [] (I, L, ab_RR, n, nc, ns) res) : ab_E w (d + 1) mt_M_tellNear 0 [.ref mx, .int v1, .null, .null, .null, .null] [] (I, L, ab_RR, n, nc, ns) res := by
  refine ab_iconst (v := 0) d_M_tellNear_0 rfl ?_
  refine ab_istore_n (i := 2) d_M_tellNear_1 rfl (by decide) (Or.inr rfl) ?_
  exact h
theorem r_M_tellNear_2 {w : ab_Wd} {d n nc ns : Nat} {I : Nat → Nat → Int32} {L : Nat → Nat → Int64} {res : ab_Re} (hT : w.1.stackTraces = false) (v1 : Int32) (v2 : Int32) (hc : nc ≤ res.2.2.2.2.2.1) (hs : ns ≤ res.2.2.2.2.2.2)
    (h : (((I mx 2) ≤ v2 → (ab_E w (d + 1) mt_M_tellNear 36 [.ref mx, .int v1, .int 0, .null, .null, .null] [] (I, L, ab_RR, n, nc, ns) res)) ∧ (¬ (I mx 2) ≤ v2 → ((¬ v2 = v1 → ((vp_in v2 10) ∧ ab_E w (d + 1) mt_M_tellNear 2 [.ref mx, .int v1, .int (v2 + 1), .null, .null, .null] [] ((ab_up I mx_near v2.toNatClampNeg 1000000), L, ab_RR, n, nc, ns) res)) ∧ (v2 = v1 → ((vp_in v2 10) ∧ ab_E w (d + 1) mt_M_tellNear 2 [.ref mx, .int v1, .int (v2 + 1), .null, .null, .null] [] ((ab_up I mx_near v2.toNatClampNeg 0), L, ab_RR, n, nc, ns) res)))))) : ab_E w (d + 1) mt_M_tellNear 2 [.ref mx, .int v1, .int v2, .null, .null, .null] [] (I, L, ab_RR, n, nc, ns) res := by
  refine ab_iload_n (i := 2) d_M_tellNear_2 rfl rfl ?_
  refine ab_aload_n (i := 0) d_M_tellNear_3 rfl rfl ?_
  refine ab_getI (ci := 11) (k := 2) d_M_tellNear_4 v_1370 rfl (by decide) (by decide) rfl ?_
  refine ab_icmp_ge (tgt := 34) d_M_tellNear_7 (by decide) (fun c1 => ?_) (fun c1 => ?_)
  · have h := h.1 c1
    refine ab_iconst (v := 0) d_M_tellNear_34 rfl ?_
    refine ab_istore_n (i := 2) d_M_tellNear_35 rfl (by decide) (Or.inr rfl) ?_
    exact h
  · have h := h.2 c1
    refine ab_aload_n (i := 0) d_M_tellNear_10 rfl rfl ?_
    refine ab_getR (ci := 11) (k := 28) (j := mx_near) d_M_tellNear_11 v_1396 rfl (by decide) (by decide) rfl r_mx_28 ?_
    refine ab_iload_n (i := 2) d_M_tellNear_14 rfl rfl ?_
    refine ab_iload_n (i := 2) d_M_tellNear_15 rfl rfl ?_
    refine ab_iload_n (i := 1) d_M_tellNear_16 rfl rfl ?_
    refine ab_icmp_ne (tgt := 24) d_M_tellNear_17 (by decide) (fun c2 => ?_) (fun c2 => ?_)
    · have h := h.1 c2
      refine ab_ldcw (v := 1000000) d_M_tellNear_24 v_1743 ?_
      have g3 := h.1; have h := h.2
      refine ab_iast d_M_tellNear_27 rfl rfl g3 ?_
      refine ab_iinc (i := 2) (v := (v2 + 1)) d_M_tellNear_28 rfl rfl (by decide) (Or.inr rfl) ?_
      refine ab_goto (tgt := 2) d_M_tellNear_31 (by decide) ?_
      exact h
    · have h := h.2 c2
      refine ab_iconst (v := 0) d_M_tellNear_20 rfl ?_
      refine ab_goto (tgt := 27) d_M_tellNear_21 (by decide) ?_
      have g4 := h.1; have h := h.2
      refine ab_iast d_M_tellNear_27 rfl rfl g4 ?_
      refine ab_iinc (i := 2) (v := (v2 + 1)) d_M_tellNear_28 rfl rfl (by decide) (Or.inr rfl) ?_
      refine ab_goto (tgt := 2) d_M_tellNear_31 (by decide) ?_
      exact h
theorem r_M_tellNear_36 {w : ab_Wd} {d n nc ns : Nat} {I : Nat → Nat → Int32} {L : Nat → Nat → Int64} {res : ab_Re} (hT : w.1.stackTraces = false) (v1 : Int32) (v2 : Int32) (hc : nc ≤ res.2.2.2.2.2.1) (hs : ns ≤ res.2.2.2.2.2.2)
    (h : (((I mx 2) ≤ v2 → (res = (.inl none, (I, L, ab_RR, n, nc, ns)))) ∧ (¬ (I mx 2) ≤ v2 → (ab_E w (d + 1) mt_M_tellNear 46 [.ref mx, .int v1, .int v2, .int 0, .null, .null] [] (I, L, ab_RR, n, nc, ns) res)))) : ab_E w (d + 1) mt_M_tellNear 36 [.ref mx, .int v1, .int v2, .null, .null, .null] [] (I, L, ab_RR, n, nc, ns) res := by
  refine ab_iload_n (i := 2) d_M_tellNear_36 rfl rfl ?_
  refine ab_aload_n (i := 0) d_M_tellNear_37 rfl rfl ?_
  refine ab_getI (ci := 11) (k := 2) d_M_tellNear_38 v_1370 rfl (by decide) (by decide) rfl ?_
  refine ab_icmp_ge (tgt := 158) d_M_tellNear_41 (by decide) (fun c1 => ?_) (fun c1 => ?_)
  · have h := h.1 c1
    exact ab_vret d_M_tellNear_158 rfl h
  · have h := h.2 c1
    refine ab_iconst (v := 0) d_M_tellNear_44 rfl ?_
    refine ab_istore_n (i := 3) d_M_tellNear_45 rfl (by decide) (Or.inr rfl) ?_
    exact h
theorem r_M_tellNear_46 {w : ab_Wd} {d n nc ns : Nat} {I : Nat → Nat → Int32} {L : Nat → Nat → Int64} {res : ab_Re} (hT : w.1.stackTraces = false) (v1 : Int32) (v2 : Int32) (v3 : Int32) (hc : nc ≤ res.2.2.2.2.2.1) (hs : ns ≤ res.2.2.2.2.2.2)
    (h : (((I mx_now 0) ≤ v3 → (ab_E w (d + 1) mt_M_tellNear 36 [.ref mx, .int v1, .int (v2 + 1), .null, .null, .null] [] (I, L, ab_RR, n, nc, ns) res)) ∧ (¬ (I mx_now 0) ≤ v3 → (((((I mx_now 1) >>> (v3 &&& 31)) &&& 1) = 1 → ((vp_in (3 + v3) 399) ∧ (vp_in (27 + v3) 399) ∧ (vp_in (I mx_now (3 + v3).toNatClampNeg) 10) ∧ (vp_in (I mx_now (27 + v3).toNatClampNeg) 10) ∧ (vp_in (51 + v3) 399) ∧ ab_E w (d + 1) mt_M_tellNear 46 [.ref mx, .int v1, .int v2, .int (v3 + 1), .null, .null] [] ((ab_up (ab_up I mx_near (I mx_now (3 + v3).toNatClampNeg).toNatClampNeg (ab_min32 (I mx_near (I mx_now (3 + v3).toNatClampNeg).toNatClampNeg) ((I mx_near (I mx_now (27 + v3).toNatClampNeg).toNatClampNeg) + (I mx_now (51 + v3).toNatClampNeg)))) mx_near (I mx_now (27 + v3).toNatClampNeg).toNatClampNeg (ab_min32 ((ab_up I mx_near (I mx_now (3 + v3).toNatClampNeg).toNatClampNeg (ab_min32 (I mx_near (I mx_now (3 + v3).toNatClampNeg).toNatClampNeg) ((I mx_near (I mx_now (27 + v3).toNatClampNeg).toNatClampNeg) + (I mx_now (51 + v3).toNatClampNeg)))) mx_near (I mx_now (27 + v3).toNatClampNeg).toNatClampNeg) (((ab_up I mx_near (I mx_now (3 + v3).toNatClampNeg).toNatClampNeg (ab_min32 (I mx_near (I mx_now (3 + v3).toNatClampNeg).toNatClampNeg) ((I mx_near (I mx_now (27 + v3).toNatClampNeg).toNatClampNeg) + (I mx_now (51 + v3).toNatClampNeg)))) mx_near (I mx_now (3 + v3).toNatClampNeg).toNatClampNeg) + (I mx_now (51 + v3).toNatClampNeg)))), L, ab_RR, n, nc, ns) res)) ∧ (¬ (((I mx_now 1) >>> (v3 &&& 31)) &&& 1) = 1 → (ab_E w (d + 1) mt_M_tellNear 46 [.ref mx, .int v1, .int v2, .int (v3 + 1), .null, .null] [] (I, L, ab_RR, n, nc, ns) res)))))) : ab_E w (d + 1) mt_M_tellNear 46 [.ref mx, .int v1, .int v2, .int v3, .null, .null] [] (I, L, ab_RR, n, nc, ns) res := by
  refine ab_iload_n (i := 3) d_M_tellNear_46 rfl rfl ?_
  refine ab_aload_n (i := 0) d_M_tellNear_47 rfl rfl ?_
  refine ab_callV (me2 := mt_M_many) (b := mx) (as := []) (st := [.int v3]) (rv := (some (.int (I mx_now 0)))) (M2 := (I, L, ab_RR, n, nc, ns)) d_M_tellNear_48 ce_M_many v_1635 v_1637 v_79 (by decide) rfl (Nat.le_of_ble_eq_true rfl) (cx_M_many_0  hT (show (vp_in 0 399) from by unfold vp_in; decide)) (Nat.le_refl _) (Nat.le_refl _) hc hs (fun j h9 => by cases h9) (fun _ _ => rfl) ?_
  show ab_E w (d + 1) mt_M_tellNear 51 [.ref mx, .int v1, .int v2, .int v3, .null, .null] [.int (I mx_now 0), .int v3] (I, L, ab_RR, n, nc, ns) res
  refine ab_icmp_ge (tgt := 152) d_M_tellNear_51 (by decide) (fun c2 => ?_) (fun c2 => ?_)
  · have h := h.1 c2
    refine ab_iinc (i := 2) (v := (v2 + 1)) d_M_tellNear_152 rfl rfl (by decide) (Or.inr rfl) ?_
    refine ab_goto (tgt := 36) d_M_tellNear_155 (by decide) ?_
    refine ab_drop 3 ?_
    exact h
  · have h := h.2 c2
    refine ab_aload_n (i := 0) d_M_tellNear_54 rfl rfl ?_
    refine ab_iload_n (i := 3) d_M_tellNear_55 rfl rfl ?_
    by_cases c4 : (((I mx_now 1) >>> (v3 &&& 31)) &&& 1) = 1
    · have h := h.1 c4
      refine ab_callV (me2 := mt_M_isSound) (b := mx) (as := [.int v3]) (st := []) (rv := (some (.int 1))) (M2 := (I, L, ab_RR, n, nc, ns)) d_M_tellNear_56 ce_M_isSound v_1679 v_1681 v_89 (by decide) rfl (Nat.le_of_ble_eq_true rfl) (cx_M_isSound_1 v3 hT (show (vp_in 1 399) from by unfold vp_in; decide) c4) (Nat.le_refl _) (Nat.le_refl _) hc hs (fun j h9 => by cases h9) (fun _ _ => rfl) ?_
      show ab_E w (d + 1) mt_M_tellNear 59 [.ref mx, .int v1, .int v2, .int v3, .null, .null] [.int 1] (I, L, ab_RR, n, nc, ns) res
      refine ab_if_ne (tgt := 65) d_M_tellNear_59 (by decide) (fun _ => ?_) (fun c9 => absurd c9 (show ¬ (1 : Int32) = 0 from by decide))
      refine ab_aload_n (i := 0) d_M_tellNear_65 rfl rfl ?_
      refine ab_getR (ci := 11) (k := 4) (j := mx_now) d_M_tellNear_66 v_1372 rfl (by decide) (by decide) rfl r_mx_4 ?_
      refine ab_iconst (v := 3) d_M_tellNear_69 rfl ?_
      refine ab_iload_n (i := 3) d_M_tellNear_70 rfl rfl ?_
      refine ab_iadd d_M_tellNear_71 ?_
      have g5 := h.1; have h := h.2
      refine ab_iald d_M_tellNear_72 rfl rfl g5 ?_
      refine ab_istore (i := 4) d_M_tellNear_73 (by decide) (Or.inr rfl) ?_
      refine ab_aload_n (i := 0) d_M_tellNear_75 rfl rfl ?_
      refine ab_getR (ci := 11) (k := 4) (j := mx_now) d_M_tellNear_76 v_1372 rfl (by decide) (by decide) rfl r_mx_4 ?_
      refine ab_bipush (v := 27) d_M_tellNear_79 rfl ?_
      refine ab_iload_n (i := 3) d_M_tellNear_81 rfl rfl ?_
      refine ab_iadd d_M_tellNear_82 ?_
      have g6 := h.1; have h := h.2
      refine ab_iald d_M_tellNear_83 rfl rfl g6 ?_
      refine ab_istore (i := 5) d_M_tellNear_84 (by decide) (Or.inr rfl) ?_
      refine ab_aload_n (i := 0) d_M_tellNear_86 rfl rfl ?_
      refine ab_getR (ci := 11) (k := 28) (j := mx_near) d_M_tellNear_87 v_1396 rfl (by decide) (by decide) rfl r_mx_28 ?_
      refine ab_iload (i := 4) d_M_tellNear_90 rfl ?_
      refine ab_aload_n (i := 0) d_M_tellNear_92 rfl rfl ?_
      refine ab_getR (ci := 11) (k := 28) (j := mx_near) d_M_tellNear_93 v_1396 rfl (by decide) (by decide) rfl r_mx_28 ?_
      refine ab_iload (i := 4) d_M_tellNear_96 rfl ?_
      have g7 := h.1; have h := h.2
      refine ab_iald d_M_tellNear_98 rfl rfl g7 ?_
      refine ab_aload_n (i := 0) d_M_tellNear_99 rfl rfl ?_
      refine ab_getR (ci := 11) (k := 28) (j := mx_near) d_M_tellNear_100 v_1396 rfl (by decide) (by decide) rfl r_mx_28 ?_
      refine ab_iload (i := 5) d_M_tellNear_103 rfl ?_
      have g8 := h.1; have h := h.2
      refine ab_iald d_M_tellNear_105 rfl rfl g8 ?_
      refine ab_aload_n (i := 0) d_M_tellNear_106 rfl rfl ?_
      refine ab_iload_n (i := 3) d_M_tellNear_107 rfl rfl ?_
      have g10 := h.1; have h := h.2
      refine ab_callV (me2 := mt_M_priceOf) (b := mx) (as := [.int v3]) (st := [.int (I mx_near (I mx_now (27 + v3).toNatClampNeg).toNatClampNeg), .int (I mx_near (I mx_now (3 + v3).toNatClampNeg).toNatClampNeg), .int (I mx_now (3 + v3).toNatClampNeg), .ref mx_near]) (rv := (some (.int (I mx_now (51 + v3).toNatClampNeg)))) (M2 := (I, L, ab_RR, n, nc, ns)) d_M_tellNear_108 ce_M_priceOf v_1654 v_1656 v_83 (by decide) rfl (Nat.le_of_ble_eq_true rfl) (cx_M_priceOf_0 v3 hT g10) (Nat.le_refl _) (Nat.le_refl _) hc hs (fun j h9 => by cases h9) (fun _ _ => rfl) ?_
      show ab_E w (d + 1) mt_M_tellNear 111 [.ref mx, .int v1, .int v2, .int v3, .int (I mx_now (3 + v3).toNatClampNeg), .int (I mx_now (27 + v3).toNatClampNeg)] [.int (I mx_now (51 + v3).toNatClampNeg), .int (I mx_near (I mx_now (27 + v3).toNatClampNeg).toNatClampNeg), .int (I mx_near (I mx_now (3 + v3).toNatClampNeg).toNatClampNeg), .int (I mx_now (3 + v3).toNatClampNeg), .ref mx_near] (I, L, ab_RR, n, nc, ns) res
      refine ab_iadd d_M_tellNear_111 ?_
      refine ab_min d_M_tellNear_112 v_1581 v_448 v_150 v_449 (Nat.succ_le_succ (Nat.zero_le _)) (Nat.le_of_ble_eq_true rfl) hc hs ?_
      refine ab_iast d_M_tellNear_115 rfl rfl g7 ?_
      refine ab_aload_n (i := 0) d_M_tellNear_116 rfl rfl ?_
      refine ab_getR (ci := 11) (k := 28) (j := mx_near) d_M_tellNear_117 v_1396 rfl (by decide) (by decide) rfl r_mx_28 ?_
      refine ab_iload (i := 5) d_M_tellNear_120 rfl ?_
      refine ab_aload_n (i := 0) d_M_tellNear_122 rfl rfl ?_
      refine ab_getR (ci := 11) (k := 28) (j := mx_near) d_M_tellNear_123 v_1396 rfl (by decide) (by decide) rfl r_mx_28 ?_
      refine ab_iload (i := 5) d_M_tellNear_126 rfl ?_
      refine ab_iald d_M_tellNear_128 rfl rfl g8 ?_
      refine ab_aload_n (i := 0) d_M_tellNear_129 rfl rfl ?_
      refine ab_getR (ci := 11) (k := 28) (j := mx_near) d_M_tellNear_130 v_1396 rfl (by decide) (by decide) rfl r_mx_28 ?_
      refine ab_iload (i := 4) d_M_tellNear_133 rfl ?_
      refine ab_iald d_M_tellNear_135 rfl rfl g7 ?_
      refine ab_aload_n (i := 0) d_M_tellNear_136 rfl rfl ?_
      refine ab_iload_n (i := 3) d_M_tellNear_137 rfl rfl ?_
      refine ab_callV (me2 := mt_M_priceOf) (b := mx) (as := [.int v3]) (st := [.int ((ab_up I mx_near (I mx_now (3 + v3).toNatClampNeg).toNatClampNeg (ab_min32 (I mx_near (I mx_now (3 + v3).toNatClampNeg).toNatClampNeg) ((I mx_near (I mx_now (27 + v3).toNatClampNeg).toNatClampNeg) + (I mx_now (51 + v3).toNatClampNeg)))) mx_near (I mx_now (3 + v3).toNatClampNeg).toNatClampNeg), .int ((ab_up I mx_near (I mx_now (3 + v3).toNatClampNeg).toNatClampNeg (ab_min32 (I mx_near (I mx_now (3 + v3).toNatClampNeg).toNatClampNeg) ((I mx_near (I mx_now (27 + v3).toNatClampNeg).toNatClampNeg) + (I mx_now (51 + v3).toNatClampNeg)))) mx_near (I mx_now (27 + v3).toNatClampNeg).toNatClampNeg), .int (I mx_now (27 + v3).toNatClampNeg), .ref mx_near]) (rv := (some (.int (I mx_now (51 + v3).toNatClampNeg)))) (M2 := ((ab_up I mx_near (I mx_now (3 + v3).toNatClampNeg).toNatClampNeg (ab_min32 (I mx_near (I mx_now (3 + v3).toNatClampNeg).toNatClampNeg) ((I mx_near (I mx_now (27 + v3).toNatClampNeg).toNatClampNeg) + (I mx_now (51 + v3).toNatClampNeg)))), L, ab_RR, n, nc, ns)) d_M_tellNear_138 ce_M_priceOf v_1654 v_1656 v_83 (by decide) rfl (Nat.le_of_ble_eq_true rfl) (cx_M_priceOf_0 v3 hT g10) (Nat.le_refl _) (Nat.le_refl _) hc hs (fun j h9 => by cases h9) (fun _ _ => rfl) ?_
      show ab_E w (d + 1) mt_M_tellNear 141 [.ref mx, .int v1, .int v2, .int v3, .int (I mx_now (3 + v3).toNatClampNeg), .int (I mx_now (27 + v3).toNatClampNeg)] [.int (I mx_now (51 + v3).toNatClampNeg), .int ((ab_up I mx_near (I mx_now (3 + v3).toNatClampNeg).toNatClampNeg (ab_min32 (I mx_near (I mx_now (3 + v3).toNatClampNeg).toNatClampNeg) ((I mx_near (I mx_now (27 + v3).toNatClampNeg).toNatClampNeg) + (I mx_now (51 + v3).toNatClampNeg)))) mx_near (I mx_now (3 + v3).toNatClampNeg).toNatClampNeg), .int ((ab_up I mx_near (I mx_now (3 + v3).toNatClampNeg).toNatClampNeg (ab_min32 (I mx_near (I mx_now (3 + v3).toNatClampNeg).toNatClampNeg) ((I mx_near (I mx_now (27 + v3).toNatClampNeg).toNatClampNeg) + (I mx_now (51 + v3).toNatClampNeg)))) mx_near (I mx_now (27 + v3).toNatClampNeg).toNatClampNeg), .int (I mx_now (27 + v3).toNatClampNeg), .ref mx_near] ((ab_up I mx_near (I mx_now (3 + v3).toNatClampNeg).toNatClampNeg (ab_min32 (I mx_near (I mx_now (3 + v3).toNatClampNeg).toNatClampNeg) ((I mx_near (I mx_now (27 + v3).toNatClampNeg).toNatClampNeg) + (I mx_now (51 + v3).toNatClampNeg)))), L, ab_RR, n, nc, ns) res
      refine ab_iadd d_M_tellNear_141 ?_
      refine ab_min d_M_tellNear_142 v_1581 v_448 v_150 v_449 (Nat.succ_le_succ (Nat.zero_le _)) (Nat.le_of_ble_eq_true rfl) hc hs ?_
      refine ab_iast d_M_tellNear_145 rfl rfl g8 ?_
      refine ab_iinc (i := 3) (v := (v3 + 1)) d_M_tellNear_146 rfl rfl (by decide) (Or.inr rfl) ?_
      refine ab_goto (tgt := 46) d_M_tellNear_149 (by decide) ?_
      refine ab_drop 4 ?_
      refine ab_drop 5 ?_
      exact h
    · have h := h.2 c4
      refine ab_callV (me2 := mt_M_isSound) (b := mx) (as := [.int v3]) (st := []) (rv := (some (.int 0))) (M2 := (I, L, ab_RR, n, nc, ns)) d_M_tellNear_56 ce_M_isSound v_1679 v_1681 v_89 (by decide) rfl (Nat.le_of_ble_eq_true rfl) (cx_M_isSound_0 v3 hT (show (vp_in 1 399) from by unfold vp_in; decide) c4) (Nat.le_refl _) (Nat.le_refl _) hc hs (fun j h9 => by cases h9) (fun _ _ => rfl) ?_
      show ab_E w (d + 1) mt_M_tellNear 59 [.ref mx, .int v1, .int v2, .int v3, .null, .null] [.int 0] (I, L, ab_RR, n, nc, ns) res
      refine ab_if_ne (tgt := 65) d_M_tellNear_59 (by decide) (fun c9 => absurd (show (0 : Int32) = 0 from by decide) c9) (fun _ => ?_)
      refine ab_goto (tgt := 146) d_M_tellNear_62 (by decide) ?_
      refine ab_iinc (i := 3) (v := (v3 + 1)) d_M_tellNear_146 rfl rfl (by decide) (Or.inr rfl) ?_
      refine ab_goto (tgt := 46) d_M_tellNear_149 (by decide) ?_
      exact h
theorem r_M_shortOf_0 {w : ab_Wd} {d n nc ns : Nat} {I : Nat → Nat → Int32} {L : Nat → Nat → Int64} {res : ab_Re} (hT : w.1.stackTraces = false) (v1 : Int32) (v2 : Int32) (hc : nc ≤ res.2.2.2.2.2.1) (hs : ns ≤ res.2.2.2.2.2.2)
    (h : ∃ (I2 : Nat → Nat → Int32), ab_C w d mt_M_tellNear [.ref mx, .int v1] (I, L, ab_RR, n, nc, ns) (.inl none, (I2, L, ab_RR, n, nc, ns)) ∧ (vp_in v2 10) ∧ (((I2 mx_near v2.toNatClampNeg) < 1000000 → (res = (.inl (some (.int (I2 mx_near v2.toNatClampNeg))), (I2, L, ab_RR, n, nc, ns)))) ∧ (¬ (I2 mx_near v2.toNatClampNeg) < 1000000 → (res = (.inl (some (.int (-1))), (I2, L, ab_RR, n, nc, ns)))))) : ab_E w (d + 1) mt_M_shortOf 0 [.ref mx, .int v1, .int v2] [] (I, L, ab_RR, n, nc, ns) res := by
  refine ab_aload_n (i := 0) d_M_shortOf_0 rfl rfl ?_
  refine ab_iload_n (i := 1) d_M_shortOf_1 rfl rfl ?_
  obtain ⟨I2, hC, h⟩ := h
  refine ab_callV (me2 := mt_M_tellNear) (b := mx) (as := [.int v1]) (st := []) (rv := none) (M2 := (I2, L, ab_RR, n, nc, ns)) d_M_shortOf_2 ce_M_tellNear v_1739 v_1741 v_104 (by decide) rfl (Nat.le_of_ble_eq_true rfl) hC (Nat.le_refl _) (Nat.le_refl _) hc hs (fun j h9 => by cases h9) (fun _ _ => rfl) ?_
  show ab_E w (d + 1) mt_M_shortOf 5 [.ref mx, .int v1, .int v2] [] (I2, L, ab_RR, n, nc, ns) res
  refine ab_aload_n (i := 0) d_M_shortOf_5 rfl rfl ?_
  refine ab_getR (ci := 11) (k := 28) (j := mx_near) d_M_shortOf_6 v_1396 rfl (by decide) (by decide) rfl r_mx_28 ?_
  refine ab_iload_n (i := 2) d_M_shortOf_9 rfl rfl ?_
  have g3 := h.1; have h := h.2
  refine ab_iald d_M_shortOf_10 rfl rfl g3 ?_
  refine ab_ldcw (v := 1000000) d_M_shortOf_11 v_1743 ?_
  refine ab_icmp_lt (tgt := 21) d_M_shortOf_14 (by decide) (fun c4 => ?_) (fun c4 => ?_)
  · have h := h.1 c4
    refine ab_aload_n (i := 0) d_M_shortOf_21 rfl rfl ?_
    refine ab_getR (ci := 11) (k := 28) (j := mx_near) d_M_shortOf_22 v_1396 rfl (by decide) (by decide) rfl r_mx_28 ?_
    refine ab_iload_n (i := 2) d_M_shortOf_25 rfl rfl ?_
    refine ab_iald d_M_shortOf_26 rfl rfl g3 ?_
    exact ab_iret (ty := .int) d_M_shortOf_27 rfl rfl h
  · have h := h.2 c4
    refine ab_iconst (v := (-1)) d_M_shortOf_17 rfl ?_
    refine ab_goto (tgt := 27) d_M_shortOf_18 (by decide) ?_
    exact ab_iret (ty := .int) d_M_shortOf_27 rfl rfl h
theorem r_M_detours_0 {w : ab_Wd} {d n nc ns : Nat} {I : Nat → Nat → Int32} {L : Nat → Nat → Int64} {res : ab_Re} (hT : w.1.stackTraces = false)  (hc : nc ≤ res.2.2.2.2.2.1) (hs : ns ≤ res.2.2.2.2.2.2)
    (h : ∃ (r1 : Int32) (I2 : Nat → Nat → Int32), ab_C w d mt_M_netNow [.ref mx] (I, L, ab_RR, n, nc, ns) (.inl (some (.int r1)), (I2, L, ab_RR, n, nc, ns)) ∧ ab_E w (d + 1) mt_M_detours 9 [.ref mx, .int r1, .int 0, .int 0, .null] [] (I2, L, ab_RR, n, nc, ns) res) : ab_E w (d + 1) mt_M_detours 0 [.ref mx, .null, .null, .null, .null] [] (I, L, ab_RR, n, nc, ns) res := by
  refine ab_aload_n (i := 0) d_M_detours_0 rfl rfl ?_
  obtain ⟨r1, I2, hC, h⟩ := h
  refine ab_callV (me2 := mt_M_netNow) (b := mx) (as := []) (st := []) (rv := (some (.int r1))) (M2 := (I2, L, ab_RR, n, nc, ns)) d_M_detours_1 ce_M_netNow v_1639 v_1641 v_80 (by decide) rfl (Nat.le_of_ble_eq_true rfl) hC (Nat.le_refl _) (Nat.le_refl _) hc hs (fun j h9 => by cases h9) (fun _ _ => rfl) ?_
  show ab_E w (d + 1) mt_M_detours 4 [.ref mx, .null, .null, .null, .null] [.int r1] (I2, L, ab_RR, n, nc, ns) res
  refine ab_istore_n (i := 1) d_M_detours_4 rfl (by decide) (Or.inr rfl) ?_
  refine ab_iconst (v := 0) d_M_detours_5 rfl ?_
  refine ab_istore_n (i := 2) d_M_detours_6 rfl (by decide) (Or.inr rfl) ?_
  refine ab_iconst (v := 0) d_M_detours_7 rfl ?_
  refine ab_istore_n (i := 3) d_M_detours_8 rfl (by decide) (Or.inr rfl) ?_
  exact h
theorem r_M_detours_9 {w : ab_Wd} {d n nc ns : Nat} {I : Nat → Nat → Int32} {L : Nat → Nat → Int64} {res : ab_Re} (hT : w.1.stackTraces = false) (v1 : Int32) (v2 : Int32) (v3 : Int32) (hc : nc ≤ res.2.2.2.2.2.1) (hs : ns ≤ res.2.2.2.2.2.2)
    (h : (((I mx 2) ≤ v3 → (res = (.inl (some (.int v2)), (I, L, ab_RR, n, nc, ns)))) ∧ (¬ (I mx 2) ≤ v3 → (∃ (I3 : Nat → Nat → Int32), ab_C w d mt_M_tellNear [.ref mx, .int v3] (I, L, ab_RR, n, nc, ns) (.inl none, (I3, L, ab_RR, n, nc, ns)) ∧ ab_E w (d + 1) mt_M_detours 27 [.ref mx, .int v1, .int v2, .int v3, .int (v3 + 1)] [] (I3, L, ab_RR, n, nc, ns) res)))) : ab_E w (d + 1) mt_M_detours 9 [.ref mx, .int v1, .int v2, .int v3, .null] [] (I, L, ab_RR, n, nc, ns) res := by
  refine ab_iload_n (i := 3) d_M_detours_9 rfl rfl ?_
  refine ab_aload_n (i := 0) d_M_detours_10 rfl rfl ?_
  refine ab_getI (ci := 11) (k := 2) d_M_detours_11 v_1370 rfl (by decide) (by decide) rfl ?_
  refine ab_icmp_ge (tgt := 82) d_M_detours_14 (by decide) (fun c1 => ?_) (fun c1 => ?_)
  · have h := h.1 c1
    refine ab_iload_n (i := 2) d_M_detours_82 rfl rfl ?_
    exact ab_iret (ty := .int) d_M_detours_83 rfl rfl h
  · have h := h.2 c1
    refine ab_aload_n (i := 0) d_M_detours_17 rfl rfl ?_
    refine ab_iload_n (i := 3) d_M_detours_18 rfl rfl ?_
    obtain ⟨I3, hC, h⟩ := h
    refine ab_callV (me2 := mt_M_tellNear) (b := mx) (as := [.int v3]) (st := []) (rv := none) (M2 := (I3, L, ab_RR, n, nc, ns)) d_M_detours_19 ce_M_tellNear v_1739 v_1741 v_104 (by decide) rfl (Nat.le_of_ble_eq_true rfl) hC (Nat.le_refl _) (Nat.le_refl _) hc hs (fun j h9 => by cases h9) (fun _ _ => rfl) ?_
    show ab_E w (d + 1) mt_M_detours 22 [.ref mx, .int v1, .int v2, .int v3, .null] [] (I3, L, ab_RR, n, nc, ns) res
    refine ab_iload_n (i := 3) d_M_detours_22 rfl rfl ?_
    refine ab_iconst (v := 1) d_M_detours_23 rfl ?_
    refine ab_iadd d_M_detours_24 ?_
    refine ab_istore (i := 4) d_M_detours_25 (by decide) (Or.inr rfl) ?_
    exact h
theorem r_M_detours_27 {w : ab_Wd} {d n nc ns : Nat} {I : Nat → Nat → Int32} {L : Nat → Nat → Int64} {res : ab_Re} (hT : w.1.stackTraces = false) (v1 : Int32) (v2 : Int32) (v3 : Int32) (v4 : Int32) (hc : nc ≤ res.2.2.2.2.2.1) (hs : ns ≤ res.2.2.2.2.2.2)
    (h : (((I mx 2) ≤ v4 → (ab_E w (d + 1) mt_M_detours 9 [.ref mx, .int v1, .int v2, .int (v3 + 1), .null] [] (I, L, ab_RR, n, nc, ns) res)) ∧ (¬ (I mx 2) ≤ v4 → (∃ (r2 : Int32) (I3 : Nat → Nat → Int32), ab_C w d mt_M_tellWay [.ref mx, .int v1, .int v3, .int v4] (I, L, ab_RR, n, nc, ns) (.inl (some (.int r2)), (I3, L, ab_RR, n, nc, ns)) ∧ ((r2 = (-1) → (ab_E w (d + 1) mt_M_detours 27 [.ref mx, .int v1, .int (v2 + 0), .int v3, .int (v4 + 1)] [] (I3, L, ab_RR, n, nc, ns) res)) ∧ (¬ r2 = (-1) → (∃ (r5 : Int32), ab_C w d mt_M_pricesOnWay [.ref mx] (I3, L, ab_RR, n, nc, ns) (.inl (some (.int r5)), (I3, L, ab_RR, n, nc, ns)) ∧ (vp_in v4 10) ∧ ((r5 ≤ (I3 mx_near v4.toNatClampNeg) → (ab_E w (d + 1) mt_M_detours 27 [.ref mx, .int v1, .int (v2 + 0), .int v3, .int (v4 + 1)] [] (I3, L, ab_RR, n, nc, ns) res)) ∧ (¬ r5 ≤ (I3 mx_near v4.toNatClampNeg) → (ab_E w (d + 1) mt_M_detours 27 [.ref mx, .int v1, .int (v2 + 1), .int v3, .int (v4 + 1)] [] (I3, L, ab_RR, n, nc, ns) res)))))))))) : ab_E w (d + 1) mt_M_detours 27 [.ref mx, .int v1, .int v2, .int v3, .int v4] [] (I, L, ab_RR, n, nc, ns) res := by
  refine ab_iload (i := 4) d_M_detours_27 rfl ?_
  refine ab_aload_n (i := 0) d_M_detours_29 rfl rfl ?_
  refine ab_getI (ci := 11) (k := 2) d_M_detours_30 v_1370 rfl (by decide) (by decide) rfl ?_
  refine ab_icmp_ge (tgt := 76) d_M_detours_33 (by decide) (fun c1 => ?_) (fun c1 => ?_)
  · have h := h.1 c1
    refine ab_iinc (i := 3) (v := (v3 + 1)) d_M_detours_76 rfl rfl (by decide) (Or.inr rfl) ?_
    refine ab_goto (tgt := 9) d_M_detours_79 (by decide) ?_
    refine ab_drop 4 ?_
    exact h
  · have h := h.2 c1
    refine ab_iload_n (i := 2) d_M_detours_36 rfl rfl ?_
    refine ab_aload_n (i := 0) d_M_detours_37 rfl rfl ?_
    refine ab_iload_n (i := 1) d_M_detours_38 rfl rfl ?_
    refine ab_iload_n (i := 3) d_M_detours_39 rfl rfl ?_
    refine ab_iload (i := 4) d_M_detours_40 rfl ?_
    obtain ⟨r2, I3, hC, h⟩ := h
    refine ab_callV (me2 := mt_M_tellWay) (b := mx) (as := [.int v1, .int v3, .int v4]) (st := [.int v2]) (rv := (some (.int r2))) (M2 := (I3, L, ab_RR, n, nc, ns)) d_M_detours_42 ce_M_tellWay v_1687 v_1689 v_91 (by decide) rfl (Nat.le_of_ble_eq_true rfl) hC (Nat.le_refl _) (Nat.le_refl _) hc hs (fun j h9 => by cases h9) (fun _ _ => rfl) ?_
    show ab_E w (d + 1) mt_M_detours 45 [.ref mx, .int v1, .int v2, .int v3, .int v4] [.int r2, .int v2] (I3, L, ab_RR, n, nc, ns) res
    refine ab_iconst (v := (-1)) d_M_detours_45 rfl ?_
    refine ab_icmp_eq (tgt := 67) d_M_detours_46 (by decide) (fun c4 => ?_) (fun c4 => ?_)
    · have h := h.1 c4
      refine ab_iconst (v := 0) d_M_detours_67 rfl ?_
      refine ab_iadd d_M_detours_68 ?_
      refine ab_istore_n (i := 2) d_M_detours_69 rfl (by decide) (Or.inr rfl) ?_
      refine ab_iinc (i := 4) (v := (v4 + 1)) d_M_detours_70 rfl rfl (by decide) (Or.inr rfl) ?_
      refine ab_goto (tgt := 27) d_M_detours_73 (by decide) ?_
      exact h
    · have h := h.2 c4
      refine ab_aload_n (i := 0) d_M_detours_49 rfl rfl ?_
      obtain ⟨r5, hC, h⟩ := h
      refine ab_callV (me2 := mt_M_pricesOnWay) (b := mx) (as := []) (st := [.int v2]) (rv := (some (.int r5))) (M2 := (I3, L, ab_RR, n, nc, ns)) d_M_detours_50 ce_M_pricesOnWay v_1711 v_1713 v_97 (by decide) rfl (Nat.le_of_ble_eq_true rfl) hC (Nat.le_refl _) (Nat.le_refl _) hc hs (fun j h9 => by cases h9) (fun _ _ => rfl) ?_
      show ab_E w (d + 1) mt_M_detours 53 [.ref mx, .int v1, .int v2, .int v3, .int v4] [.int r5, .int v2] (I3, L, ab_RR, n, nc, ns) res
      refine ab_aload_n (i := 0) d_M_detours_53 rfl rfl ?_
      refine ab_getR (ci := 11) (k := 28) (j := mx_near) d_M_detours_54 v_1396 rfl (by decide) (by decide) rfl r_mx_28 ?_
      refine ab_iload (i := 4) d_M_detours_57 rfl ?_
      have g6 := h.1; have h := h.2
      refine ab_iald d_M_detours_59 rfl rfl g6 ?_
      refine ab_icmp_le (tgt := 67) d_M_detours_60 (by decide) (fun c7 => ?_) (fun c7 => ?_)
      · have h := h.1 c7
        refine ab_iconst (v := 0) d_M_detours_67 rfl ?_
        refine ab_iadd d_M_detours_68 ?_
        refine ab_istore_n (i := 2) d_M_detours_69 rfl (by decide) (Or.inr rfl) ?_
        refine ab_iinc (i := 4) (v := (v4 + 1)) d_M_detours_70 rfl rfl (by decide) (Or.inr rfl) ?_
        refine ab_goto (tgt := 27) d_M_detours_73 (by decide) ?_
        exact h
      · have h := h.2 c7
        refine ab_iconst (v := 1) d_M_detours_63 rfl ?_
        refine ab_goto (tgt := 68) d_M_detours_64 (by decide) ?_
        refine ab_iadd d_M_detours_68 ?_
        refine ab_istore_n (i := 2) d_M_detours_69 rfl (by decide) (Or.inr rfl) ?_
        refine ab_iinc (i := 4) (v := (v4 + 1)) d_M_detours_70 rfl rfl (by decide) (Or.inr rfl) ?_
        refine ab_goto (tgt := 27) d_M_detours_73 (by decide) ?_
        exact h
theorem r_M_apartOf_0 {w : ab_Wd} {d n nc ns : Nat} {I : Nat → Nat → Int32} {L : Nat → Nat → Int64} {res : ab_Re} (hT : w.1.stackTraces = false) (v1 : Int32) (v2 : Int32) (hc : nc ≤ res.2.2.2.2.2.1) (hs : ns ≤ res.2.2.2.2.2.2)
    (h : ab_E w (d + 1) mt_M_apartOf 2 [.ref mx, .int v1, .int v2, .int 0, .null, .null] [] (I, L, ab_RR, n, nc, ns) res) : ab_E w (d + 1) mt_M_apartOf 0 [.ref mx, .int v1, .int v2, .null, .null, .null] [] (I, L, ab_RR, n, nc, ns) res := by
  refine ab_iconst (v := 0) d_M_apartOf_0 rfl ?_
  refine ab_istore_n (i := 3) d_M_apartOf_1 rfl (by decide) (Or.inr rfl) ?_
  exact h
theorem r_M_apartOf_2 {w : ab_Wd} {d n nc ns : Nat} {I : Nat → Nat → Int32} {L : Nat → Nat → Int64} {res : ab_Re} (hT : w.1.stackTraces = false) (v1 : Int32) (v2 : Int32) (v3 : Int32) (hc : nc ≤ res.2.2.2.2.2.1) (hs : ns ≤ res.2.2.2.2.2.2)
    (h : ((24 ≤ v3 → ((v1 = v2 → (ab_E w (d + 1) mt_M_apartOf 35 [.ref mx, .int v1, .int v2, .int (-1), .int 0, .null] [] (I, L, ab_RR, n, nc, ns) res)) ∧ (¬ v1 = v2 → (ab_E w (d + 1) mt_M_apartOf 35 [.ref mx, .int v1, .int v2, .int (-1), .int 1, .null] [] (I, L, ab_RR, n, nc, ns) res)))) ∧ (¬ 24 ≤ v3 → ((vp_in v3 24) ∧ ab_E w (d + 1) mt_M_apartOf 2 [.ref mx, .int v1, .int v2, .int (v3 + 1), .null, .null] [] ((ab_up I mx_gone v3.toNatClampNeg 0), L, ab_RR, n, nc, ns) res)))) : ab_E w (d + 1) mt_M_apartOf 2 [.ref mx, .int v1, .int v2, .int v3, .null, .null] [] (I, L, ab_RR, n, nc, ns) res := by
  refine ab_iload_n (i := 3) d_M_apartOf_2 rfl rfl ?_
  refine ab_bipush (v := 24) d_M_apartOf_3 rfl ?_
  refine ab_icmp_ge (tgt := 21) d_M_apartOf_5 (by decide) (fun c1 => ?_) (fun c1 => ?_)
  · have h := h.1 c1
    refine ab_iconst (v := (-1)) d_M_apartOf_21 rfl ?_
    refine ab_istore_n (i := 3) d_M_apartOf_22 rfl (by decide) (Or.inr rfl) ?_
    refine ab_iload_n (i := 1) d_M_apartOf_23 rfl rfl ?_
    refine ab_iload_n (i := 2) d_M_apartOf_24 rfl rfl ?_
    refine ab_icmp_eq (tgt := 32) d_M_apartOf_25 (by decide) (fun c2 => ?_) (fun c2 => ?_)
    · have h := h.1 c2
      refine ab_iconst (v := 0) d_M_apartOf_32 rfl ?_
      refine ab_istore (i := 4) d_M_apartOf_33 (by decide) (Or.inr rfl) ?_
      exact h
    · have h := h.2 c2
      refine ab_iconst (v := 1) d_M_apartOf_28 rfl ?_
      refine ab_goto (tgt := 33) d_M_apartOf_29 (by decide) ?_
      refine ab_istore (i := 4) d_M_apartOf_33 (by decide) (Or.inr rfl) ?_
      exact h
  · have h := h.2 c1
    refine ab_aload_n (i := 0) d_M_apartOf_8 rfl rfl ?_
    refine ab_getR (ci := 11) (k := 29) (j := mx_gone) d_M_apartOf_9 v_1397 rfl (by decide) (by decide) rfl r_mx_29 ?_
    refine ab_iload_n (i := 3) d_M_apartOf_12 rfl rfl ?_
    refine ab_iconst (v := 0) d_M_apartOf_13 rfl ?_
    have g3 := h.1; have h := h.2
    refine ab_iast d_M_apartOf_14 rfl rfl g3 ?_
    refine ab_iinc (i := 3) (v := (v3 + 1)) d_M_apartOf_15 rfl rfl (by decide) (Or.inr rfl) ?_
    refine ab_goto (tgt := 2) d_M_apartOf_18 (by decide) ?_
    exact h
theorem r_M_apartOf_35 {w : ab_Wd} {d n nc ns : Nat} {I : Nat → Nat → Int32} {L : Nat → Nat → Int64} {res : ab_Re} (hT : w.1.stackTraces = false) (v1 : Int32) (v2 : Int32) (v3 : Int32) (v4 : Int32) (hc : nc ≤ res.2.2.2.2.2.1) (hs : ns ≤ res.2.2.2.2.2.2)
    (h : ((v4 = 0 → (res = (.inl (some (.int (ab_max32 0 v3))), (I, L, ab_RR, n, nc, ns)))) ∧ (¬ v4 = 0 → (ab_E w (d + 1) mt_M_apartOf 46 [.ref mx, .int v1, .int v2, .int (v3 + 1), .int v4, .int 0] [] (I, L, ab_RR, n, nc, ns) res)))) : ab_E w (d + 1) mt_M_apartOf 35 [.ref mx, .int v1, .int v2, .int v3, .int v4, .null] [] (I, L, ab_RR, n, nc, ns) res := by
  refine ab_iload (i := 4) d_M_apartOf_35 rfl ?_
  refine ab_if_eq (tgt := 84) d_M_apartOf_37 (by decide) (fun c1 => ?_) (fun c1 => ?_)
  · have h := h.1 c1
    refine ab_iconst (v := 0) d_M_apartOf_84 rfl ?_
    refine ab_iload_n (i := 3) d_M_apartOf_85 rfl rfl ?_
    refine ab_max d_M_apartOf_86 v_1662 v_451 v_150 v_452 (Nat.succ_le_succ (Nat.zero_le _)) (Nat.le_of_ble_eq_true rfl) hc hs ?_
    exact ab_iret (ty := .int) d_M_apartOf_89 rfl rfl h
  · have h := h.2 c1
    refine ab_iinc (i := 3) (v := (v3 + 1)) d_M_apartOf_40 rfl rfl (by decide) (Or.inr rfl) ?_
    refine ab_iconst (v := 0) d_M_apartOf_43 rfl ?_
    refine ab_istore (i := 5) d_M_apartOf_44 (by decide) (Or.inr rfl) ?_
    exact h
theorem r_M_apartOf_46 {w : ab_Wd} {d n nc ns : Nat} {I : Nat → Nat → Int32} {L : Nat → Nat → Int64} {res : ab_Re} (hT : w.1.stackTraces = false) (v1 : Int32) (v2 : Int32) (v3 : Int32) (v4 : Int32) (v5 : Int32) (hc : nc ≤ res.2.2.2.2.2.1) (hs : ns ≤ res.2.2.2.2.2.2)
    (h : (((I mx 2) ≤ v5 → (∃ (r2 : Int32) (I3 : Nat → Nat → Int32), ab_C w d mt_M_finds [.ref mx, .int v1, .int v2, .ref mx_metSites] (I, L, ab_RR, n, nc, ns) (.inl (some (.int r2)), (I3, L, ab_RR, n, nc, ns)) ∧ ab_E w (d + 1) mt_M_apartOf 35 [.ref mx, .int v1, .int v2, .int v3, .int r2, .null] [] (I3, L, ab_RR, n, nc, ns) res)) ∧ (¬ (I mx 2) ≤ v5 → ((vp_in v5 10) ∧ ab_E w (d + 1) mt_M_apartOf 46 [.ref mx, .int v1, .int v2, .int v3, .int v4, .int (v5 + 1)] [] ((ab_up I mx_metSites v5.toNatClampNeg (vp_nar .boolean 0)), L, ab_RR, n, nc, ns) res)))) : ab_E w (d + 1) mt_M_apartOf 46 [.ref mx, .int v1, .int v2, .int v3, .int v4, .int v5] [] (I, L, ab_RR, n, nc, ns) res := by
  refine ab_iload (i := 5) d_M_apartOf_46 rfl ?_
  refine ab_aload_n (i := 0) d_M_apartOf_48 rfl rfl ?_
  refine ab_getI (ci := 11) (k := 2) d_M_apartOf_49 v_1370 rfl (by decide) (by decide) rfl ?_
  refine ab_icmp_ge (tgt := 69) d_M_apartOf_52 (by decide) (fun c1 => ?_) (fun c1 => ?_)
  · have h := h.1 c1
    refine ab_aload_n (i := 0) d_M_apartOf_69 rfl rfl ?_
    refine ab_iload_n (i := 1) d_M_apartOf_70 rfl rfl ?_
    refine ab_iload_n (i := 2) d_M_apartOf_71 rfl rfl ?_
    refine ab_aload_n (i := 0) d_M_apartOf_72 rfl rfl ?_
    refine ab_getR (ci := 11) (k := 30) (j := mx_metSites) d_M_apartOf_73 v_1398 rfl (by decide) (by decide) rfl r_mx_30 ?_
    obtain ⟨r2, I3, hC, h⟩ := h
    refine ab_callV (me2 := mt_M_finds) (b := mx) (as := [.int v1, .int v2, .ref mx_metSites]) (st := []) (rv := (some (.int r2))) (M2 := (I3, L, ab_RR, n, nc, ns)) d_M_apartOf_76 ce_M_finds v_1803 v_1805 v_114 (by decide) rfl (Nat.le_of_ble_eq_true rfl) hC (Nat.le_refl _) (Nat.le_refl _) hc hs (fun j h9 => by cases h9) (fun _ _ => rfl) ?_
    show ab_E w (d + 1) mt_M_apartOf 79 [.ref mx, .int v1, .int v2, .int v3, .int v4, .int v5] [.int r2] (I3, L, ab_RR, n, nc, ns) res
    refine ab_istore (i := 4) d_M_apartOf_79 (by decide) (Or.inr rfl) ?_
    refine ab_goto (tgt := 35) d_M_apartOf_81 (by decide) ?_
    refine ab_drop 5 ?_
    exact h
  · have h := h.2 c1
    refine ab_aload_n (i := 0) d_M_apartOf_55 rfl rfl ?_
    refine ab_getR (ci := 11) (k := 30) (j := mx_metSites) d_M_apartOf_56 v_1398 rfl (by decide) (by decide) rfl r_mx_30 ?_
    refine ab_iload (i := 5) d_M_apartOf_59 rfl ?_
    refine ab_iconst (v := 0) d_M_apartOf_61 rfl ?_
    have g4 := h.1; have h := h.2
    refine ab_zast d_M_apartOf_62 rfl rfl g4 ?_
    refine ab_iinc (i := 5) (v := (v5 + 1)) d_M_apartOf_63 rfl rfl (by decide) (Or.inr rfl) ?_
    refine ab_goto (tgt := 46) d_M_apartOf_66 (by decide) ?_
    exact h
