theorem r_M_waysAt_0 {w : ab_Wd} {d n nc ns : Nat} {I : Nat → Nat → Int32} {L : Nat → Nat → Int64} {res : ab_Re} (hT : w.1.stackTraces = false) (v1 : Int32) (hc : nc ≤ res.2.2.2.2.2.1) (hs : ns ≤ res.2.2.2.2.2.2)
    (h : ab_E w (d + 1) mt_M_waysAt 7 [.ref mx, .int v1, .int 0, .int 0, .int 0, .null, .null, .null, .null, .null] [] (I, L, ab_RR, n, nc, ns) res) : ab_E w (d + 1) mt_M_waysAt 0 [.ref mx, .int v1, .null, .null, .null, .null, .null, .null, .null, .null] [] (I, L, ab_RR, n, nc, ns) res := by
  refine ab_iconst (v := 0) d_M_waysAt_0 rfl ?_
  refine ab_istore_n (i := 2) d_M_waysAt_1 rfl (by decide) (Or.inr rfl) ?_
  refine ab_iconst (v := 0) d_M_waysAt_2 rfl ?_
  refine ab_istore_n (i := 3) d_M_waysAt_3 rfl (by decide) (Or.inr rfl) ?_
  refine ab_iconst (v := 0) d_M_waysAt_4 rfl ?_
  refine ab_istore (i := 4) d_M_waysAt_5 (by decide) (Or.inr rfl) ?_
  exact h
theorem r_M_waysAt_7 {w : ab_Wd} {d n nc ns : Nat} {I : Nat → Nat → Int32} {L : Nat → Nat → Int64} {res : ab_Re} (hT : w.1.stackTraces = false) (v1 : Int32) (v2 : Int32) (v3 : Int32) (v4 : Int32) (hc : nc ≤ res.2.2.2.2.2.1) (hs : ns ≤ res.2.2.2.2.2.2)
    (h : (((I mx_now 0) ≤ v4 → (∃ (r3 : Int32) (I4 : Nat → Nat → Int32), ab_C w d mt_M_netOf [.ref mx, .int (v2 ||| v3)] (I, L, ab_RR, n, nc, ns) (.inl (some (.int r3)), (I4, L, ab_RR, n, nc, ns)) ∧ ∃ (I6 : Nat → Nat → Int32), ab_C w d mt_M_copyTo [.ref mx_level, .ref mx_piece] (I4, L, ab_RR, n, nc, ns) (.inl none, (I6, L, ab_RR, n, nc, ns)) ∧ ∃ (r7 : Int32) (I8 : Nat → Nat → Int32), ab_C w d mt_M_netOf [.ref mx, .int v2] (I6, L, ab_RR, n, nc, ns) (.inl (some (.int r7)), (I8, L, ab_RR, n, nc, ns)) ∧ ab_E w (d + 1) mt_M_waysAt 115 [.ref mx, .int v1, .int v2, .int v3, .int r3, .int r7, .int 0, .int 0, .null, .null] [] (I8, L, ab_RR, n, nc, ns) res)) ∧ (¬ (I mx_now 0) ≤ v4 → (((((I mx_now 1) >>> (v4 &&& 31)) &&& 1) = 1 → ((vp_in (51 + v4) 399) ∧ ((v1 ≤ (I mx_now (51 + v4).toNatClampNeg) → (ab_E w (d + 1) mt_M_waysAt 43 [.ref mx, .int v1, .int v2, .int v3, .int v4, .null, .null, .null, .null, .null] [.int v2] (I, L, ab_RR, n, nc, ns) res)) ∧ (¬ v1 ≤ (I mx_now (51 + v4).toNatClampNeg) → (ab_E w (d + 1) mt_M_waysAt 44 [.ref mx, .int v1, .int v2, .int v3, .int v4, .null, .null, .null, .null, .null] [.int ((1 : Int32) <<< (v4 &&& 31)), .int v2] (I, L, ab_RR, n, nc, ns) res))))) ∧ (¬ (((I mx_now 1) >>> (v4 &&& 31)) &&& 1) = 1 → (ab_E w (d + 1) mt_M_waysAt 43 [.ref mx, .int v1, .int v2, .int v3, .int v4, .null, .null, .null, .null, .null] [.int v2] (I, L, ab_RR, n, nc, ns) res)))))) : ab_E w (d + 1) mt_M_waysAt 7 [.ref mx, .int v1, .int v2, .int v3, .int v4, .null, .null, .null, .null, .null] [] (I, L, ab_RR, n, nc, ns) res := by
  refine ab_iload (i := 4) d_M_waysAt_7 rfl ?_
  refine ab_aload_n (i := 0) d_M_waysAt_9 rfl rfl ?_
  refine ab_callV (me2 := mt_M_many) (b := mx) (as := []) (st := [.int v4]) (rv := (some (.int (I mx_now 0)))) (M2 := (I, L, ab_RR, n, nc, ns)) d_M_waysAt_10 ce_M_many v_1635 v_1637 v_79 (by decide) rfl (Nat.le_of_ble_eq_true rfl) (cx_M_many_0  hT (show (vp_in 0 399) from by unfold vp_in; decide)) (Nat.le_refl _) (Nat.le_refl _) hc hs (fun j h9 => by cases h9) (fun _ _ => rfl) ?_
  show ab_E w (d + 1) mt_M_waysAt 13 [.ref mx, .int v1, .int v2, .int v3, .int v4, .null, .null, .null, .null, .null] [.int (I mx_now 0), .int v4] (I, L, ab_RR, n, nc, ns) res
  refine ab_icmp_ge (tgt := 82) d_M_waysAt_13 (by decide) (fun c2 => ?_) (fun c2 => ?_)
  · have h := h.1 c2
    refine ab_aload_n (i := 0) d_M_waysAt_82 rfl rfl ?_
    refine ab_iload_n (i := 2) d_M_waysAt_83 rfl rfl ?_
    refine ab_iload_n (i := 3) d_M_waysAt_84 rfl rfl ?_
    refine ab_ior d_M_waysAt_85 ?_
    obtain ⟨r3, I4, hC, h⟩ := h
    refine ab_callV (me2 := mt_M_netOf) (b := mx) (as := [.int (v2 ||| v3)]) (st := []) (rv := (some (.int r3))) (M2 := (I4, L, ab_RR, n, nc, ns)) d_M_waysAt_86 ce_M_netOf v_1643 v_1645 v_81 (by decide) rfl (Nat.le_of_ble_eq_true rfl) hC (Nat.le_refl _) (Nat.le_refl _) hc hs (fun j h9 => by cases h9) (fun _ _ => rfl) ?_
    show ab_E w (d + 1) mt_M_waysAt 89 [.ref mx, .int v1, .int v2, .int v3, .int v4, .null, .null, .null, .null, .null] [.int r3] (I4, L, ab_RR, n, nc, ns) res
    refine ab_istore (i := 4) d_M_waysAt_89 (by decide) (Or.inr rfl) ?_
    refine ab_aload_n (i := 0) d_M_waysAt_91 rfl rfl ?_
    refine ab_getR (ci := 11) (k := 34) (j := mx_level) d_M_waysAt_92 v_1402 rfl (by decide) (by decide) rfl r_mx_34 ?_
    refine ab_aload_n (i := 0) d_M_waysAt_95 rfl rfl ?_
    refine ab_getR (ci := 11) (k := 19) (j := mx_piece) d_M_waysAt_96 v_1387 rfl (by decide) (by decide) rfl r_mx_19 ?_
    obtain ⟨I6, hC, h⟩ := h
    refine ab_callS (me2 := mt_M_copyTo) (as := [.ref mx_level, .ref mx_piece]) (st := []) (rv := none) (M2 := (I6, L, ab_RR, n, nc, ns)) d_M_waysAt_99 ce_M_copyTo ⟨v_1625, Or.inl v_1624⟩ (Nat.le_of_ble_eq_true rfl) hC (Nat.le_refl _) (Nat.le_refl _) hc hs (fun j h9 => by cases h9) (fun _ _ => rfl) ?_
    show ab_E w (d + 1) mt_M_waysAt 102 [.ref mx, .int v1, .int v2, .int v3, .int r3, .null, .null, .null, .null, .null] [] (I6, L, ab_RR, n, nc, ns) res
    refine ab_aload_n (i := 0) d_M_waysAt_102 rfl rfl ?_
    refine ab_iload_n (i := 2) d_M_waysAt_103 rfl rfl ?_
    obtain ⟨r7, I8, hC, h⟩ := h
    refine ab_callV (me2 := mt_M_netOf) (b := mx) (as := [.int v2]) (st := []) (rv := (some (.int r7))) (M2 := (I8, L, ab_RR, n, nc, ns)) d_M_waysAt_104 ce_M_netOf v_1643 v_1645 v_81 (by decide) rfl (Nat.le_of_ble_eq_true rfl) hC (Nat.le_refl _) (Nat.le_refl _) hc hs (fun j h9 => by cases h9) (fun _ _ => rfl) ?_
    show ab_E w (d + 1) mt_M_waysAt 107 [.ref mx, .int v1, .int v2, .int v3, .int r3, .null, .null, .null, .null, .null] [.int r7] (I8, L, ab_RR, n, nc, ns) res
    refine ab_istore (i := 5) d_M_waysAt_107 (by decide) (Or.inr rfl) ?_
    refine ab_iconst (v := 0) d_M_waysAt_109 rfl ?_
    refine ab_istore (i := 6) d_M_waysAt_110 (by decide) (Or.inr rfl) ?_
    refine ab_iconst (v := 0) d_M_waysAt_112 rfl ?_
    refine ab_istore (i := 7) d_M_waysAt_113 (by decide) (Or.inr rfl) ?_
    exact h
  · have h := h.2 c2
    refine ab_iload_n (i := 2) d_M_waysAt_16 rfl rfl ?_
    refine ab_aload_n (i := 0) d_M_waysAt_17 rfl rfl ?_
    refine ab_iload (i := 4) d_M_waysAt_18 rfl ?_
    by_cases c10 : (((I mx_now 1) >>> (v4 &&& 31)) &&& 1) = 1
    · have h := h.1 c10
      refine ab_callV (me2 := mt_M_isSound) (b := mx) (as := [.int v4]) (st := [.int v2]) (rv := (some (.int 1))) (M2 := (I, L, ab_RR, n, nc, ns)) d_M_waysAt_20 ce_M_isSound v_1679 v_1681 v_89 (by decide) rfl (Nat.le_of_ble_eq_true rfl) (cx_M_isSound_1 v4 hT (show (vp_in 1 399) from by unfold vp_in; decide) c10) (Nat.le_refl _) (Nat.le_refl _) hc hs (fun j h9 => by cases h9) (fun _ _ => rfl) ?_
      show ab_E w (d + 1) mt_M_waysAt 23 [.ref mx, .int v1, .int v2, .int v3, .int v4, .null, .null, .null, .null, .null] [.int 1, .int v2] (I, L, ab_RR, n, nc, ns) res
      refine ab_if_eq (tgt := 43) d_M_waysAt_23 (by decide) (fun c9 => absurd c9 (show ¬ (1 : Int32) = 0 from by decide)) (fun _ => ?_)
      refine ab_aload_n (i := 0) d_M_waysAt_26 rfl rfl ?_
      refine ab_iload (i := 4) d_M_waysAt_27 rfl ?_
      have g12 := h.1; have h := h.2
      refine ab_callV (me2 := mt_M_priceOf) (b := mx) (as := [.int v4]) (st := [.int v2]) (rv := (some (.int (I mx_now (51 + v4).toNatClampNeg)))) (M2 := (I, L, ab_RR, n, nc, ns)) d_M_waysAt_29 ce_M_priceOf v_1654 v_1656 v_83 (by decide) rfl (Nat.le_of_ble_eq_true rfl) (cx_M_priceOf_0 v4 hT g12) (Nat.le_refl _) (Nat.le_refl _) hc hs (fun j h9 => by cases h9) (fun _ _ => rfl) ?_
      show ab_E w (d + 1) mt_M_waysAt 32 [.ref mx, .int v1, .int v2, .int v3, .int v4, .null, .null, .null, .null, .null] [.int (I mx_now (51 + v4).toNatClampNeg), .int v2] (I, L, ab_RR, n, nc, ns) res
      refine ab_iload_n (i := 1) d_M_waysAt_32 rfl rfl ?_
      refine ab_icmp_ge (tgt := 43) d_M_waysAt_33 (by decide) (fun c13 => ?_) (fun c13 => ?_)
      · have h := h.1 c13
        exact h
      · have h := h.2 c13
        refine ab_iconst (v := 1) d_M_waysAt_36 rfl ?_
        refine ab_iload (i := 4) d_M_waysAt_37 rfl ?_
        refine ab_ishl d_M_waysAt_39 ?_
        refine ab_goto (tgt := 44) d_M_waysAt_40 (by decide) ?_
        exact h
    · have h := h.2 c10
      refine ab_callV (me2 := mt_M_isSound) (b := mx) (as := [.int v4]) (st := [.int v2]) (rv := (some (.int 0))) (M2 := (I, L, ab_RR, n, nc, ns)) d_M_waysAt_20 ce_M_isSound v_1679 v_1681 v_89 (by decide) rfl (Nat.le_of_ble_eq_true rfl) (cx_M_isSound_0 v4 hT (show (vp_in 1 399) from by unfold vp_in; decide) c10) (Nat.le_refl _) (Nat.le_refl _) hc hs (fun j h9 => by cases h9) (fun _ _ => rfl) ?_
      show ab_E w (d + 1) mt_M_waysAt 23 [.ref mx, .int v1, .int v2, .int v3, .int v4, .null, .null, .null, .null, .null] [.int 0, .int v2] (I, L, ab_RR, n, nc, ns) res
      refine ab_if_eq (tgt := 43) d_M_waysAt_23 (by decide) (fun _ => ?_) (fun c9 => absurd (show (0 : Int32) = 0 from by decide) c9)
      exact h
theorem r_M_waysAt_43 {w : ab_Wd} {d n nc ns : Nat} {I : Nat → Nat → Int32} {L : Nat → Nat → Int64} {res : ab_Re} (hT : w.1.stackTraces = false) (v1 : Int32) (v2 : Int32) (v3 : Int32) (v4 : Int32) (s0 : Int32) (hc : nc ≤ res.2.2.2.2.2.1) (hs : ns ≤ res.2.2.2.2.2.2)
    (h : ab_E w (d + 1) mt_M_waysAt 44 [.ref mx, .int v1, .int v2, .int v3, .int v4, .null, .null, .null, .null, .null] [.int 0, .int s0] (I, L, ab_RR, n, nc, ns) res) : ab_E w (d + 1) mt_M_waysAt 43 [.ref mx, .int v1, .int v2, .int v3, .int v4, .null, .null, .null, .null, .null] [.int s0] (I, L, ab_RR, n, nc, ns) res := by
  refine ab_iconst (v := 0) d_M_waysAt_43 rfl ?_
  exact h
theorem r_M_waysAt_44 {w : ab_Wd} {d n nc ns : Nat} {I : Nat → Nat → Int32} {L : Nat → Nat → Int64} {res : ab_Re} (hT : w.1.stackTraces = false) (v1 : Int32) (v2 : Int32) (v3 : Int32) (v4 : Int32) (s0 : Int32) (s1 : Int32) (hc : nc ≤ res.2.2.2.2.2.1) (hs : ns ≤ res.2.2.2.2.2.2)
    (h : (((((I mx_now 1) >>> (v4 &&& 31)) &&& 1) = 1 → ((vp_in (51 + v4) 399) ∧ ((¬ (I mx_now (51 + v4).toNatClampNeg) = v1 → (ab_E w (d + 1) mt_M_waysAt 73 [.ref mx, .int v1, .int (s0 ||| s1), .int v3, .int v4, .null, .null, .null, .null, .null] [.int v3] (I, L, ab_RR, n, nc, ns) res)) ∧ ((I mx_now (51 + v4).toNatClampNeg) = v1 → (ab_E w (d + 1) mt_M_waysAt 74 [.ref mx, .int v1, .int (s0 ||| s1), .int v3, .int v4, .null, .null, .null, .null, .null] [.int ((1 : Int32) <<< (v4 &&& 31)), .int v3] (I, L, ab_RR, n, nc, ns) res))))) ∧ (¬ (((I mx_now 1) >>> (v4 &&& 31)) &&& 1) = 1 → (ab_E w (d + 1) mt_M_waysAt 73 [.ref mx, .int v1, .int (s0 ||| s1), .int v3, .int v4, .null, .null, .null, .null, .null] [.int v3] (I, L, ab_RR, n, nc, ns) res)))) : ab_E w (d + 1) mt_M_waysAt 44 [.ref mx, .int v1, .int v2, .int v3, .int v4, .null, .null, .null, .null, .null] [.int s1, .int s0] (I, L, ab_RR, n, nc, ns) res := by
  refine ab_ior d_M_waysAt_44 ?_
  refine ab_istore_n (i := 2) d_M_waysAt_45 rfl (by decide) (Or.inr rfl) ?_
  refine ab_iload_n (i := 3) d_M_waysAt_46 rfl rfl ?_
  refine ab_aload_n (i := 0) d_M_waysAt_47 rfl rfl ?_
  refine ab_iload (i := 4) d_M_waysAt_48 rfl ?_
  by_cases c2 : (((I mx_now 1) >>> (v4 &&& 31)) &&& 1) = 1
  · have h := h.1 c2
    refine ab_callV (me2 := mt_M_isSound) (b := mx) (as := [.int v4]) (st := [.int v3]) (rv := (some (.int 1))) (M2 := (I, L, ab_RR, n, nc, ns)) d_M_waysAt_50 ce_M_isSound v_1679 v_1681 v_89 (by decide) rfl (Nat.le_of_ble_eq_true rfl) (cx_M_isSound_1 v4 hT (show (vp_in 1 399) from by unfold vp_in; decide) c2) (Nat.le_refl _) (Nat.le_refl _) hc hs (fun j h9 => by cases h9) (fun _ _ => rfl) ?_
    show ab_E w (d + 1) mt_M_waysAt 53 [.ref mx, .int v1, .int (s0 ||| s1), .int v3, .int v4, .null, .null, .null, .null, .null] [.int 1, .int v3] (I, L, ab_RR, n, nc, ns) res
    refine ab_if_eq (tgt := 73) d_M_waysAt_53 (by decide) (fun c9 => absurd c9 (show ¬ (1 : Int32) = 0 from by decide)) (fun _ => ?_)
    refine ab_aload_n (i := 0) d_M_waysAt_56 rfl rfl ?_
    refine ab_iload (i := 4) d_M_waysAt_57 rfl ?_
    have g4 := h.1; have h := h.2
    refine ab_callV (me2 := mt_M_priceOf) (b := mx) (as := [.int v4]) (st := [.int v3]) (rv := (some (.int (I mx_now (51 + v4).toNatClampNeg)))) (M2 := (I, L, ab_RR, n, nc, ns)) d_M_waysAt_59 ce_M_priceOf v_1654 v_1656 v_83 (by decide) rfl (Nat.le_of_ble_eq_true rfl) (cx_M_priceOf_0 v4 hT g4) (Nat.le_refl _) (Nat.le_refl _) hc hs (fun j h9 => by cases h9) (fun _ _ => rfl) ?_
    show ab_E w (d + 1) mt_M_waysAt 62 [.ref mx, .int v1, .int (s0 ||| s1), .int v3, .int v4, .null, .null, .null, .null, .null] [.int (I mx_now (51 + v4).toNatClampNeg), .int v3] (I, L, ab_RR, n, nc, ns) res
    refine ab_iload_n (i := 1) d_M_waysAt_62 rfl rfl ?_
    refine ab_icmp_ne (tgt := 73) d_M_waysAt_63 (by decide) (fun c5 => ?_) (fun c5 => ?_)
    · have h := h.1 c5
      exact h
    · have h := h.2 c5
      refine ab_iconst (v := 1) d_M_waysAt_66 rfl ?_
      refine ab_iload (i := 4) d_M_waysAt_67 rfl ?_
      refine ab_ishl d_M_waysAt_69 ?_
      refine ab_goto (tgt := 74) d_M_waysAt_70 (by decide) ?_
      exact h
  · have h := h.2 c2
    refine ab_callV (me2 := mt_M_isSound) (b := mx) (as := [.int v4]) (st := [.int v3]) (rv := (some (.int 0))) (M2 := (I, L, ab_RR, n, nc, ns)) d_M_waysAt_50 ce_M_isSound v_1679 v_1681 v_89 (by decide) rfl (Nat.le_of_ble_eq_true rfl) (cx_M_isSound_0 v4 hT (show (vp_in 1 399) from by unfold vp_in; decide) c2) (Nat.le_refl _) (Nat.le_refl _) hc hs (fun j h9 => by cases h9) (fun _ _ => rfl) ?_
    show ab_E w (d + 1) mt_M_waysAt 53 [.ref mx, .int v1, .int (s0 ||| s1), .int v3, .int v4, .null, .null, .null, .null, .null] [.int 0, .int v3] (I, L, ab_RR, n, nc, ns) res
    refine ab_if_eq (tgt := 73) d_M_waysAt_53 (by decide) (fun _ => ?_) (fun c9 => absurd (show (0 : Int32) = 0 from by decide) c9)
    exact h
theorem r_M_waysAt_73 {w : ab_Wd} {d n nc ns : Nat} {I : Nat → Nat → Int32} {L : Nat → Nat → Int64} {res : ab_Re} (hT : w.1.stackTraces = false) (v1 : Int32) (v2 : Int32) (v3 : Int32) (v4 : Int32) (s0 : Int32) (hc : nc ≤ res.2.2.2.2.2.1) (hs : ns ≤ res.2.2.2.2.2.2)
    (h : ab_E w (d + 1) mt_M_waysAt 74 [.ref mx, .int v1, .int v2, .int v3, .int v4, .null, .null, .null, .null, .null] [.int 0, .int s0] (I, L, ab_RR, n, nc, ns) res) : ab_E w (d + 1) mt_M_waysAt 73 [.ref mx, .int v1, .int v2, .int v3, .int v4, .null, .null, .null, .null, .null] [.int s0] (I, L, ab_RR, n, nc, ns) res := by
  refine ab_iconst (v := 0) d_M_waysAt_73 rfl ?_
  exact h
theorem r_M_waysAt_74 {w : ab_Wd} {d n nc ns : Nat} {I : Nat → Nat → Int32} {L : Nat → Nat → Int64} {res : ab_Re} (hT : w.1.stackTraces = false) (v1 : Int32) (v2 : Int32) (v3 : Int32) (v4 : Int32) (s0 : Int32) (s1 : Int32) (hc : nc ≤ res.2.2.2.2.2.1) (hs : ns ≤ res.2.2.2.2.2.2)
    (h : ab_E w (d + 1) mt_M_waysAt 7 [.ref mx, .int v1, .int v2, .int (s0 ||| s1), .int (v4 + 1), .null, .null, .null, .null, .null] [] (I, L, ab_RR, n, nc, ns) res) : ab_E w (d + 1) mt_M_waysAt 74 [.ref mx, .int v1, .int v2, .int v3, .int v4, .null, .null, .null, .null, .null] [.int s1, .int s0] (I, L, ab_RR, n, nc, ns) res := by
  refine ab_ior d_M_waysAt_74 ?_
  refine ab_istore_n (i := 3) d_M_waysAt_75 rfl (by decide) (Or.inr rfl) ?_
  refine ab_iinc (i := 4) (v := (v4 + 1)) d_M_waysAt_76 rfl rfl (by decide) (Or.inr rfl) ?_
  refine ab_goto (tgt := 7) d_M_waysAt_79 (by decide) ?_
  exact h
theorem r_M_waysAt_115 {w : ab_Wd} {d n nc ns : Nat} {I : Nat → Nat → Int32} {L : Nat → Nat → Int64} {res : ab_Re} (hT : w.1.stackTraces = false) (v1 : Int32) (v2 : Int32) (v3 : Int32) (v4 : Int32) (v5 : Int32) (v6 : Int32) (v7 : Int32) (hc : nc ≤ res.2.2.2.2.2.1) (hs : ns ≤ res.2.2.2.2.2.2)
    (h : (((I mx 2) ≤ v7 → (ab_E w (d + 1) mt_M_waysAt 191 [.ref mx, .int v1, .int v2, .int v3, .int v4, .int v5, .int v6, .int 0, .null, .null] [] (I, L, ab_RR, n, nc, ns) res)) ∧ (¬ (I mx 2) ≤ v7 → ((vp_in v7 10) ∧ ((¬ (I mx_piece v7.toNatClampNeg) = v7 → (ab_E w (d + 1) mt_M_waysAt 159 [.ref mx, .int v1, .int v2, .int v3, .int v4, .int v5, .int v6, .int v7, .null, .null] [.int v7, .ref mx_column] (I, L, ab_RR, n, nc, ns) res)) ∧ ((I mx_piece v7.toNatClampNeg) = v7 → (((I mx_level v7.toNatClampNeg) = v7 → (ab_E w (d + 1) mt_M_waysAt 159 [.ref mx, .int v1, .int v2, .int v3, .int v4, .int v5, .int v6, .int v7, .null, .null] [.int v7, .ref mx_column] (I, L, ab_RR, n, nc, ns) res)) ∧ (¬ (I mx_level v7.toNatClampNeg) = v7 → (ab_E w (d + 1) mt_M_waysAt 160 [.ref mx, .int v1, .int v2, .int v3, .int v4, .int v5, .int v6, .int v7, .null, .null] [.int v6, .int v7, .ref mx_column] (I, L, ab_RR, n, nc, ns) res))))))))) : ab_E w (d + 1) mt_M_waysAt 115 [.ref mx, .int v1, .int v2, .int v3, .int v4, .int v5, .int v6, .int v7, .null, .null] [] (I, L, ab_RR, n, nc, ns) res := by
  refine ab_iload (i := 7) d_M_waysAt_115 rfl ?_
  refine ab_aload_n (i := 0) d_M_waysAt_117 rfl rfl ?_
  refine ab_getI (ci := 11) (k := 2) d_M_waysAt_118 v_1370 rfl (by decide) (by decide) rfl ?_
  refine ab_icmp_ge (tgt := 188) d_M_waysAt_121 (by decide) (fun c1 => ?_) (fun c1 => ?_)
  · have h := h.1 c1
    refine ab_iconst (v := 0) d_M_waysAt_188 rfl ?_
    refine ab_istore (i := 7) d_M_waysAt_189 (by decide) (Or.inr rfl) ?_
    exact h
  · have h := h.2 c1
    refine ab_aload_n (i := 0) d_M_waysAt_124 rfl rfl ?_
    refine ab_getR (ci := 11) (k := 35) (j := mx_column) d_M_waysAt_125 v_1403 rfl (by decide) (by decide) rfl r_mx_35 ?_
    refine ab_iload (i := 7) d_M_waysAt_128 rfl ?_
    refine ab_aload_n (i := 0) d_M_waysAt_130 rfl rfl ?_
    refine ab_getR (ci := 11) (k := 19) (j := mx_piece) d_M_waysAt_131 v_1387 rfl (by decide) (by decide) rfl r_mx_19 ?_
    refine ab_iload (i := 7) d_M_waysAt_134 rfl ?_
    have g2 := h.1; have h := h.2
    refine ab_iald d_M_waysAt_136 rfl rfl g2 ?_
    refine ab_iload (i := 7) d_M_waysAt_137 rfl ?_
    refine ab_icmp_ne (tgt := 159) d_M_waysAt_139 (by decide) (fun c3 => ?_) (fun c3 => ?_)
    · have h := h.1 c3
      exact h
    · have h := h.2 c3
      refine ab_aload_n (i := 0) d_M_waysAt_142 rfl rfl ?_
      refine ab_getR (ci := 11) (k := 34) (j := mx_level) d_M_waysAt_143 v_1402 rfl (by decide) (by decide) rfl r_mx_34 ?_
      refine ab_iload (i := 7) d_M_waysAt_146 rfl ?_
      refine ab_iald d_M_waysAt_148 rfl rfl g2 ?_
      refine ab_iload (i := 7) d_M_waysAt_149 rfl ?_
      refine ab_icmp_eq (tgt := 159) d_M_waysAt_151 (by decide) (fun c4 => ?_) (fun c4 => ?_)
      · have h := h.1 c4
        exact h
      · have h := h.2 c4
        refine ab_iload (i := 6) d_M_waysAt_154 rfl ?_
        refine ab_goto (tgt := 160) d_M_waysAt_156 (by decide) ?_
        exact h
theorem r_M_waysAt_159 {w : ab_Wd} {d n nc ns : Nat} {I : Nat → Nat → Int32} {L : Nat → Nat → Int64} {res : ab_Re} (hT : w.1.stackTraces = false) (v1 : Int32) (v2 : Int32) (v3 : Int32) (v4 : Int32) (v5 : Int32) (v6 : Int32) (v7 : Int32) (s1 : Int32) (hc : nc ≤ res.2.2.2.2.2.1) (hs : ns ≤ res.2.2.2.2.2.2)
    (h : ab_E w (d + 1) mt_M_waysAt 160 [.ref mx, .int v1, .int v2, .int v3, .int v4, .int v5, .int v6, .int v7, .null, .null] [.int (-1), .int s1, .ref mx_column] (I, L, ab_RR, n, nc, ns) res) : ab_E w (d + 1) mt_M_waysAt 159 [.ref mx, .int v1, .int v2, .int v3, .int v4, .int v5, .int v6, .int v7, .null, .null] [.int s1, .ref mx_column] (I, L, ab_RR, n, nc, ns) res := by
  refine ab_iconst (v := (-1)) d_M_waysAt_159 rfl ?_
  exact h
theorem r_M_waysAt_160 {w : ab_Wd} {d n nc ns : Nat} {I : Nat → Nat → Int32} {L : Nat → Nat → Int64} {res : ab_Re} (hT : w.1.stackTraces = false) (v1 : Int32) (v2 : Int32) (v3 : Int32) (v4 : Int32) (v5 : Int32) (v6 : Int32) (v7 : Int32) (s1 : Int32) (s2 : Int32) (hc : nc ≤ res.2.2.2.2.2.1) (hs : ns ≤ res.2.2.2.2.2.2)
    (h : (vp_in s1 10) ∧ (vp_in v7 10) ∧ ((¬ ((ab_up I mx_column s1.toNatClampNeg s2) mx_column v7.toNatClampNeg) = (-1) → (ab_E w (d + 1) mt_M_waysAt 179 [.ref mx, .int v1, .int v2, .int v3, .int v4, .int v5, .int v6, .int v7, .null, .null] [.int 1, .int v6] ((ab_up I mx_column s1.toNatClampNeg s2), L, ab_RR, n, nc, ns) res)) ∧ (((ab_up I mx_column s1.toNatClampNeg s2) mx_column v7.toNatClampNeg) = (-1) → (ab_E w (d + 1) mt_M_waysAt 179 [.ref mx, .int v1, .int v2, .int v3, .int v4, .int v5, .int v6, .int v7, .null, .null] [.int 0, .int v6] ((ab_up I mx_column s1.toNatClampNeg s2), L, ab_RR, n, nc, ns) res)))) : ab_E w (d + 1) mt_M_waysAt 160 [.ref mx, .int v1, .int v2, .int v3, .int v4, .int v5, .int v6, .int v7, .null, .null] [.int s2, .int s1, .ref mx_column] (I, L, ab_RR, n, nc, ns) res := by
  have g1 := h.1; have h := h.2
  refine ab_iast d_M_waysAt_160 rfl rfl g1 ?_
  refine ab_iload (i := 6) d_M_waysAt_161 rfl ?_
  refine ab_aload_n (i := 0) d_M_waysAt_163 rfl rfl ?_
  refine ab_getR (ci := 11) (k := 35) (j := mx_column) d_M_waysAt_164 v_1403 rfl (by decide) (by decide) rfl r_mx_35 ?_
  refine ab_iload (i := 7) d_M_waysAt_167 rfl ?_
  have g2 := h.1; have h := h.2
  refine ab_iald d_M_waysAt_169 rfl rfl g2 ?_
  refine ab_iconst (v := (-1)) d_M_waysAt_170 rfl ?_
  refine ab_icmp_ne (tgt := 178) d_M_waysAt_171 (by decide) (fun c3 => ?_) (fun c3 => ?_)
  · have h := h.1 c3
    refine ab_iconst (v := 1) d_M_waysAt_178 rfl ?_
    exact h
  · have h := h.2 c3
    refine ab_iconst (v := 0) d_M_waysAt_174 rfl ?_
    refine ab_goto (tgt := 179) d_M_waysAt_175 (by decide) ?_
    exact h
theorem r_M_waysAt_179 {w : ab_Wd} {d n nc ns : Nat} {I : Nat → Nat → Int32} {L : Nat → Nat → Int64} {res : ab_Re} (hT : w.1.stackTraces = false) (v1 : Int32) (v2 : Int32) (v3 : Int32) (v4 : Int32) (v5 : Int32) (v6 : Int32) (v7 : Int32) (s0 : Int32) (s1 : Int32) (hc : nc ≤ res.2.2.2.2.2.1) (hs : ns ≤ res.2.2.2.2.2.2)
    (h : ab_E w (d + 1) mt_M_waysAt 115 [.ref mx, .int v1, .int v2, .int v3, .int v4, .int v5, .int (s0 + s1), .int (v7 + 1), .null, .null] [] (I, L, ab_RR, n, nc, ns) res) : ab_E w (d + 1) mt_M_waysAt 179 [.ref mx, .int v1, .int v2, .int v3, .int v4, .int v5, .int v6, .int v7, .null, .null] [.int s1, .int s0] (I, L, ab_RR, n, nc, ns) res := by
  refine ab_iadd d_M_waysAt_179 ?_
  refine ab_istore (i := 6) d_M_waysAt_180 (by decide) (Or.inr rfl) ?_
  refine ab_iinc (i := 7) (v := (v7 + 1)) d_M_waysAt_182 rfl rfl (by decide) (Or.inr rfl) ?_
  refine ab_goto (tgt := 115) d_M_waysAt_185 (by decide) ?_
  exact h
theorem r_M_waysAt_191 {w : ab_Wd} {d n nc ns : Nat} {I : Nat → Nat → Int32} {L : Nat → Nat → Int64} {res : ab_Re} (hT : w.1.stackTraces = false) (v1 : Int32) (v2 : Int32) (v3 : Int32) (v4 : Int32) (v5 : Int32) (v6 : Int32) (v7 : Int32) (hc : nc ≤ res.2.2.2.2.2.1) (hs : ns ≤ res.2.2.2.2.2.2)
    (h : ((100 ≤ v7 → (ab_E w (d + 1) mt_M_waysAt 218 [.ref mx, .int v1, .int v2, .int v3, .int v4, .int v5, .int v6, .int 0, .null, .null] [] (I, L, ab_RR, n, nc, ns) res)) ∧ (¬ 100 ≤ v7 → ((vp_in v7 100) ∧ ab_E w (d + 1) mt_M_waysAt 191 [.ref mx, .int v1, .int v2, .int v3, .int v4, .int v5, .int v6, .int (v7 + 1), .null, .null] [] (I, (ab_upL L mx_laplace v7.toNatClampNeg 0), ab_RR, n, nc, ns) res)))) : ab_E w (d + 1) mt_M_waysAt 191 [.ref mx, .int v1, .int v2, .int v3, .int v4, .int v5, .int v6, .int v7, .null, .null] [] (I, L, ab_RR, n, nc, ns) res := by
  refine ab_iload (i := 7) d_M_waysAt_191 rfl ?_
  refine ab_aload_n (i := 0) d_M_waysAt_193 rfl rfl ?_
  refine ab_getR (ci := 11) (k := 36) (j := mx_laplace) d_M_waysAt_194 v_1404 rfl (by decide) (by decide) rfl r_mx_36 ?_
  refine ab_alen (v := 100) d_M_waysAt_197 (by decide) (by decide) rfl ?_
  refine ab_icmp_ge (tgt := 215) d_M_waysAt_198 (by decide) (fun c1 => ?_) (fun c1 => ?_)
  · have h := h.1 c1
    refine ab_iconst (v := 0) d_M_waysAt_215 rfl ?_
    refine ab_istore (i := 7) d_M_waysAt_216 (by decide) (Or.inr rfl) ?_
    exact h
  · have h := h.2 c1
    refine ab_aload_n (i := 0) d_M_waysAt_201 rfl rfl ?_
    refine ab_getR (ci := 11) (k := 36) (j := mx_laplace) d_M_waysAt_202 v_1404 rfl (by decide) (by decide) rfl r_mx_36 ?_
    refine ab_iload (i := 7) d_M_waysAt_205 rfl ?_
    refine ab_lconst (v := 0) d_M_waysAt_207 rfl ?_
    have g2 := h.1; have h := h.2
    refine ab_last d_M_waysAt_208 rfl rfl g2 ?_
    refine ab_iinc (i := 7) (v := (v7 + 1)) d_M_waysAt_209 rfl rfl (by decide) (Or.inr rfl) ?_
    refine ab_goto (tgt := 191) d_M_waysAt_212 (by decide) ?_
    exact h
theorem r_M_waysAt_218 {w : ab_Wd} {d n nc ns : Nat} {I : Nat → Nat → Int32} {L : Nat → Nat → Int64} {res : ab_Re} (hT : w.1.stackTraces = false) (v1 : Int32) (v2 : Int32) (v3 : Int32) (v4 : Int32) (v5 : Int32) (v6 : Int32) (v7 : Int32) (hc : nc ≤ res.2.2.2.2.2.1) (hs : ns ≤ res.2.2.2.2.2.2)
    (h : (((I mx_now 0) ≤ v7 → (∃ (r3 : Int64) (L4 : Nat → Nat → Int64), ab_C w d mt_M_determinant [.ref mx, .int v6] (I, L, ab_RR, n, nc, ns) (.inl (some (.long r3)), (I, L4, ab_RR, n, nc, ns)) ∧ res = (.inl (some (.long r3)), (I, L4, ab_RR, n, nc, ns)))) ∧ (¬ (I mx_now 0) ≤ v7 → ((((v3 >>> (v7 &&& 31)) &&& 1) = 1 → ((vp_in (3 + v7) 399) ∧ (vp_in (I mx_now (3 + v7).toNatClampNeg) 10) ∧ (vp_in (27 + v7) 399) ∧ (vp_in (I mx_now (27 + v7).toNatClampNeg) 10) ∧ ((¬ (I mx_piece (I mx_now (3 + v7).toNatClampNeg).toNatClampNeg) = (I mx_piece (I mx_now (27 + v7).toNatClampNeg).toNatClampNeg) → ((vp_in (I mx_piece (I mx_now (3 + v7).toNatClampNeg).toNatClampNeg) 10) ∧ (((I mx_column (I mx_piece (I mx_now (3 + v7).toNatClampNeg).toNatClampNeg).toNatClampNeg) = (-1) → ((vp_in (I mx_piece (I mx_now (27 + v7).toNatClampNeg).toNatClampNeg) 10) ∧ (((I mx_column (I mx_piece (I mx_now (27 + v7).toNatClampNeg).toNatClampNeg).toNatClampNeg) = (-1) → (ab_E w (d + 1) mt_M_waysAt 362 [.ref mx, .int v1, .int v2, .int v3, .int v4, .int v5, .int v6, .int v7, .null, .null] [] (I, L, ab_RR, n, nc, ns) res)) ∧ (¬ (I mx_column (I mx_piece (I mx_now (27 + v7).toNatClampNeg).toNatClampNeg).toNatClampNeg) = (-1) → ((vp_in ((10 * (I mx_column (I mx_piece (I mx_now (27 + v7).toNatClampNeg).toNatClampNeg).toNatClampNeg)) + (I mx_column (I mx_piece (I mx_now (27 + v7).toNatClampNeg).toNatClampNeg).toNatClampNeg)) 100) ∧ ab_E w (d + 1) mt_M_waysAt 362 [.ref mx, .int v1, .int v2, .int v3, .int v4, .int v5, .int v6, .int v7, .null, .null] [] (I, (ab_upL L mx_laplace ((10 * (I mx_column (I mx_piece (I mx_now (27 + v7).toNatClampNeg).toNatClampNeg).toNatClampNeg)) + (I mx_column (I mx_piece (I mx_now (27 + v7).toNatClampNeg).toNatClampNeg).toNatClampNeg)).toNatClampNeg ((L mx_laplace ((10 * (I mx_column (I mx_piece (I mx_now (27 + v7).toNatClampNeg).toNatClampNeg).toNatClampNeg)) + (I mx_column (I mx_piece (I mx_now (27 + v7).toNatClampNeg).toNatClampNeg).toNatClampNeg)).toNatClampNeg) + 1)), ab_RR, n, nc, ns) res))))) ∧ (¬ (I mx_column (I mx_piece (I mx_now (3 + v7).toNatClampNeg).toNatClampNeg).toNatClampNeg) = (-1) → ((vp_in ((10 * (I mx_column (I mx_piece (I mx_now (3 + v7).toNatClampNeg).toNatClampNeg).toNatClampNeg)) + (I mx_column (I mx_piece (I mx_now (3 + v7).toNatClampNeg).toNatClampNeg).toNatClampNeg)) 100) ∧ (vp_in (I mx_piece (I mx_now (27 + v7).toNatClampNeg).toNatClampNeg) 10) ∧ (((I mx_column (I mx_piece (I mx_now (27 + v7).toNatClampNeg).toNatClampNeg).toNatClampNeg) = (-1) → (ab_E w (d + 1) mt_M_waysAt 362 [.ref mx, .int v1, .int v2, .int v3, .int v4, .int v5, .int v6, .int v7, .null, .null] [] (I, (ab_upL L mx_laplace ((10 * (I mx_column (I mx_piece (I mx_now (3 + v7).toNatClampNeg).toNatClampNeg).toNatClampNeg)) + (I mx_column (I mx_piece (I mx_now (3 + v7).toNatClampNeg).toNatClampNeg).toNatClampNeg)).toNatClampNeg ((L mx_laplace ((10 * (I mx_column (I mx_piece (I mx_now (3 + v7).toNatClampNeg).toNatClampNeg).toNatClampNeg)) + (I mx_column (I mx_piece (I mx_now (3 + v7).toNatClampNeg).toNatClampNeg).toNatClampNeg)).toNatClampNeg) + 1)), ab_RR, n, nc, ns) res)) ∧ (¬ (I mx_column (I mx_piece (I mx_now (27 + v7).toNatClampNeg).toNatClampNeg).toNatClampNeg) = (-1) → ((vp_in ((10 * (I mx_column (I mx_piece (I mx_now (27 + v7).toNatClampNeg).toNatClampNeg).toNatClampNeg)) + (I mx_column (I mx_piece (I mx_now (27 + v7).toNatClampNeg).toNatClampNeg).toNatClampNeg)) 100) ∧ (vp_in ((10 * (I mx_column (I mx_piece (I mx_now (3 + v7).toNatClampNeg).toNatClampNeg).toNatClampNeg)) + (I mx_column (I mx_piece (I mx_now (27 + v7).toNatClampNeg).toNatClampNeg).toNatClampNeg)) 100) ∧ (vp_in ((10 * (I mx_column (I mx_piece (I mx_now (27 + v7).toNatClampNeg).toNatClampNeg).toNatClampNeg)) + (I mx_column (I mx_piece (I mx_now (3 + v7).toNatClampNeg).toNatClampNeg).toNatClampNeg)) 100) ∧ ab_E w (d + 1) mt_M_waysAt 362 [.ref mx, .int v1, .int v2, .int v3, .int v4, .int v5, .int v6, .int v7, .null, .null] [] (I, (ab_upL (ab_upL (ab_upL (ab_upL L mx_laplace ((10 * (I mx_column (I mx_piece (I mx_now (3 + v7).toNatClampNeg).toNatClampNeg).toNatClampNeg)) + (I mx_column (I mx_piece (I mx_now (3 + v7).toNatClampNeg).toNatClampNeg).toNatClampNeg)).toNatClampNeg ((L mx_laplace ((10 * (I mx_column (I mx_piece (I mx_now (3 + v7).toNatClampNeg).toNatClampNeg).toNatClampNeg)) + (I mx_column (I mx_piece (I mx_now (3 + v7).toNatClampNeg).toNatClampNeg).toNatClampNeg)).toNatClampNeg) + 1)) mx_laplace ((10 * (I mx_column (I mx_piece (I mx_now (27 + v7).toNatClampNeg).toNatClampNeg).toNatClampNeg)) + (I mx_column (I mx_piece (I mx_now (27 + v7).toNatClampNeg).toNatClampNeg).toNatClampNeg)).toNatClampNeg (((ab_upL L mx_laplace ((10 * (I mx_column (I mx_piece (I mx_now (3 + v7).toNatClampNeg).toNatClampNeg).toNatClampNeg)) + (I mx_column (I mx_piece (I mx_now (3 + v7).toNatClampNeg).toNatClampNeg).toNatClampNeg)).toNatClampNeg ((L mx_laplace ((10 * (I mx_column (I mx_piece (I mx_now (3 + v7).toNatClampNeg).toNatClampNeg).toNatClampNeg)) + (I mx_column (I mx_piece (I mx_now (3 + v7).toNatClampNeg).toNatClampNeg).toNatClampNeg)).toNatClampNeg) + 1)) mx_laplace ((10 * (I mx_column (I mx_piece (I mx_now (27 + v7).toNatClampNeg).toNatClampNeg).toNatClampNeg)) + (I mx_column (I mx_piece (I mx_now (27 + v7).toNatClampNeg).toNatClampNeg).toNatClampNeg)).toNatClampNeg) + 1)) mx_laplace ((10 * (I mx_column (I mx_piece (I mx_now (3 + v7).toNatClampNeg).toNatClampNeg).toNatClampNeg)) + (I mx_column (I mx_piece (I mx_now (27 + v7).toNatClampNeg).toNatClampNeg).toNatClampNeg)).toNatClampNeg (((ab_upL (ab_upL L mx_laplace ((10 * (I mx_column (I mx_piece (I mx_now (3 + v7).toNatClampNeg).toNatClampNeg).toNatClampNeg)) + (I mx_column (I mx_piece (I mx_now (3 + v7).toNatClampNeg).toNatClampNeg).toNatClampNeg)).toNatClampNeg ((L mx_laplace ((10 * (I mx_column (I mx_piece (I mx_now (3 + v7).toNatClampNeg).toNatClampNeg).toNatClampNeg)) + (I mx_column (I mx_piece (I mx_now (3 + v7).toNatClampNeg).toNatClampNeg).toNatClampNeg)).toNatClampNeg) + 1)) mx_laplace ((10 * (I mx_column (I mx_piece (I mx_now (27 + v7).toNatClampNeg).toNatClampNeg).toNatClampNeg)) + (I mx_column (I mx_piece (I mx_now (27 + v7).toNatClampNeg).toNatClampNeg).toNatClampNeg)).toNatClampNeg (((ab_upL L mx_laplace ((10 * (I mx_column (I mx_piece (I mx_now (3 + v7).toNatClampNeg).toNatClampNeg).toNatClampNeg)) + (I mx_column (I mx_piece (I mx_now (3 + v7).toNatClampNeg).toNatClampNeg).toNatClampNeg)).toNatClampNeg ((L mx_laplace ((10 * (I mx_column (I mx_piece (I mx_now (3 + v7).toNatClampNeg).toNatClampNeg).toNatClampNeg)) + (I mx_column (I mx_piece (I mx_now (3 + v7).toNatClampNeg).toNatClampNeg).toNatClampNeg)).toNatClampNeg) + 1)) mx_laplace ((10 * (I mx_column (I mx_piece (I mx_now (27 + v7).toNatClampNeg).toNatClampNeg).toNatClampNeg)) + (I mx_column (I mx_piece (I mx_now (27 + v7).toNatClampNeg).toNatClampNeg).toNatClampNeg)).toNatClampNeg) + 1)) mx_laplace ((10 * (I mx_column (I mx_piece (I mx_now (3 + v7).toNatClampNeg).toNatClampNeg).toNatClampNeg)) + (I mx_column (I mx_piece (I mx_now (27 + v7).toNatClampNeg).toNatClampNeg).toNatClampNeg)).toNatClampNeg) + (-1))) mx_laplace ((10 * (I mx_column (I mx_piece (I mx_now (27 + v7).toNatClampNeg).toNatClampNeg).toNatClampNeg)) + (I mx_column (I mx_piece (I mx_now (3 + v7).toNatClampNeg).toNatClampNeg).toNatClampNeg)).toNatClampNeg (((ab_upL (ab_upL (ab_upL L mx_laplace ((10 * (I mx_column (I mx_piece (I mx_now (3 + v7).toNatClampNeg).toNatClampNeg).toNatClampNeg)) + (I mx_column (I mx_piece (I mx_now (3 + v7).toNatClampNeg).toNatClampNeg).toNatClampNeg)).toNatClampNeg ((L mx_laplace ((10 * (I mx_column (I mx_piece (I mx_now (3 + v7).toNatClampNeg).toNatClampNeg).toNatClampNeg)) + (I mx_column (I mx_piece (I mx_now (3 + v7).toNatClampNeg).toNatClampNeg).toNatClampNeg)).toNatClampNeg) + 1)) mx_laplace ((10 * (I mx_column (I mx_piece (I mx_now (27 + v7).toNatClampNeg).toNatClampNeg).toNatClampNeg)) + (I mx_column (I mx_piece (I mx_now (27 + v7).toNatClampNeg).toNatClampNeg).toNatClampNeg)).toNatClampNeg (((ab_upL L mx_laplace ((10 * (I mx_column (I mx_piece (I mx_now (3 + v7).toNatClampNeg).toNatClampNeg).toNatClampNeg)) + (I mx_column (I mx_piece (I mx_now (3 + v7).toNatClampNeg).toNatClampNeg).toNatClampNeg)).toNatClampNeg ((L mx_laplace ((10 * (I mx_column (I mx_piece (I mx_now (3 + v7).toNatClampNeg).toNatClampNeg).toNatClampNeg)) + (I mx_column (I mx_piece (I mx_now (3 + v7).toNatClampNeg).toNatClampNeg).toNatClampNeg)).toNatClampNeg) + 1)) mx_laplace ((10 * (I mx_column (I mx_piece (I mx_now (27 + v7).toNatClampNeg).toNatClampNeg).toNatClampNeg)) + (I mx_column (I mx_piece (I mx_now (27 + v7).toNatClampNeg).toNatClampNeg).toNatClampNeg)).toNatClampNeg) + 1)) mx_laplace ((10 * (I mx_column (I mx_piece (I mx_now (3 + v7).toNatClampNeg).toNatClampNeg).toNatClampNeg)) + (I mx_column (I mx_piece (I mx_now (27 + v7).toNatClampNeg).toNatClampNeg).toNatClampNeg)).toNatClampNeg (((ab_upL (ab_upL L mx_laplace ((10 * (I mx_column (I mx_piece (I mx_now (3 + v7).toNatClampNeg).toNatClampNeg).toNatClampNeg)) + (I mx_column (I mx_piece (I mx_now (3 + v7).toNatClampNeg).toNatClampNeg).toNatClampNeg)).toNatClampNeg ((L mx_laplace ((10 * (I mx_column (I mx_piece (I mx_now (3 + v7).toNatClampNeg).toNatClampNeg).toNatClampNeg)) + (I mx_column (I mx_piece (I mx_now (3 + v7).toNatClampNeg).toNatClampNeg).toNatClampNeg)).toNatClampNeg) + 1)) mx_laplace ((10 * (I mx_column (I mx_piece (I mx_now (27 + v7).toNatClampNeg).toNatClampNeg).toNatClampNeg)) + (I mx_column (I mx_piece (I mx_now (27 + v7).toNatClampNeg).toNatClampNeg).toNatClampNeg)).toNatClampNeg (((ab_upL L mx_laplace ((10 * (I mx_column (I mx_piece (I mx_now (3 + v7).toNatClampNeg).toNatClampNeg).toNatClampNeg)) + (I mx_column (I mx_piece (I mx_now (3 + v7).toNatClampNeg).toNatClampNeg).toNatClampNeg)).toNatClampNeg ((L mx_laplace ((10 * (I mx_column (I mx_piece (I mx_now (3 + v7).toNatClampNeg).toNatClampNeg).toNatClampNeg)) + (I mx_column (I mx_piece (I mx_now (3 + v7).toNatClampNeg).toNatClampNeg).toNatClampNeg)).toNatClampNeg) + 1)) mx_laplace ((10 * (I mx_column (I mx_piece (I mx_now (27 + v7).toNatClampNeg).toNatClampNeg).toNatClampNeg)) + (I mx_column (I mx_piece (I mx_now (27 + v7).toNatClampNeg).toNatClampNeg).toNatClampNeg)).toNatClampNeg) + 1)) mx_laplace ((10 * (I mx_column (I mx_piece (I mx_now (3 + v7).toNatClampNeg).toNatClampNeg).toNatClampNeg)) + (I mx_column (I mx_piece (I mx_now (27 + v7).toNatClampNeg).toNatClampNeg).toNatClampNeg)).toNatClampNeg) + (-1))) mx_laplace ((10 * (I mx_column (I mx_piece (I mx_now (27 + v7).toNatClampNeg).toNatClampNeg).toNatClampNeg)) + (I mx_column (I mx_piece (I mx_now (3 + v7).toNatClampNeg).toNatClampNeg).toNatClampNeg)).toNatClampNeg) + (-1))), ab_RR, n, nc, ns) res)))))))) ∧ ((I mx_piece (I mx_now (3 + v7).toNatClampNeg).toNatClampNeg) = (I mx_piece (I mx_now (27 + v7).toNatClampNeg).toNatClampNeg) → (ab_E w (d + 1) mt_M_waysAt 362 [.ref mx, .int v1, .int v2, .int v3, .int v4, .int v5, .int v6, .int v7, .null, .null] [] (I, L, ab_RR, n, nc, ns) res))))) ∧ (¬ ((v3 >>> (v7 &&& 31)) &&& 1) = 1 → (ab_E w (d + 1) mt_M_waysAt 362 [.ref mx, .int v1, .int v2, .int v3, .int v4, .int v5, .int v6, .int v7, .null, .null] [] (I, L, ab_RR, n, nc, ns) res)))))) : ab_E w (d + 1) mt_M_waysAt 218 [.ref mx, .int v1, .int v2, .int v3, .int v4, .int v5, .int v6, .int v7, .null, .null] [] (I, L, ab_RR, n, nc, ns) res := by
  refine ab_iload (i := 7) d_M_waysAt_218 rfl ?_
  refine ab_aload_n (i := 0) d_M_waysAt_220 rfl rfl ?_
  refine ab_callV (me2 := mt_M_many) (b := mx) (as := []) (st := [.int v7]) (rv := (some (.int (I mx_now 0)))) (M2 := (I, L, ab_RR, n, nc, ns)) d_M_waysAt_221 ce_M_many v_1635 v_1637 v_79 (by decide) rfl (Nat.le_of_ble_eq_true rfl) (cx_M_many_0  hT (show (vp_in 0 399) from by unfold vp_in; decide)) (Nat.le_refl _) (Nat.le_refl _) hc hs (fun j h9 => by cases h9) (fun _ _ => rfl) ?_
  show ab_E w (d + 1) mt_M_waysAt 224 [.ref mx, .int v1, .int v2, .int v3, .int v4, .int v5, .int v6, .int v7, .null, .null] [.int (I mx_now 0), .int v7] (I, L, ab_RR, n, nc, ns) res
  refine ab_icmp_ge (tgt := 368) d_M_waysAt_224 (by decide) (fun c2 => ?_) (fun c2 => ?_)
  · have h := h.1 c2
    refine ab_aload_n (i := 0) d_M_waysAt_368 rfl rfl ?_
    refine ab_iload (i := 6) d_M_waysAt_369 rfl ?_
    obtain ⟨r3, L4, hC, h⟩ := h
    refine ab_callV (me2 := mt_M_determinant) (b := mx) (as := [.int v6]) (st := []) (rv := (some (.long r3))) (M2 := (I, L4, ab_RR, n, nc, ns)) d_M_waysAt_371 ce_M_determinant v_1836 v_1838 v_118 (by decide) rfl (Nat.le_of_ble_eq_true rfl) hC (Nat.le_refl _) (Nat.le_refl _) hc hs (fun j h9 => by cases h9) (fun _ _ => rfl) ?_
    show ab_E w (d + 1) mt_M_waysAt 374 [.ref mx, .int v1, .int v2, .int v3, .int v4, .int v5, .int v6, .int v7, .null, .null] [.long r3] (I, L4, ab_RR, n, nc, ns) res
    exact ab_lret d_M_waysAt_374 rfl h
  · have h := h.2 c2
    refine ab_iload_n (i := 3) d_M_waysAt_227 rfl rfl ?_
    refine ab_iload (i := 7) d_M_waysAt_228 rfl ?_
    by_cases c6 : ((v3 >>> (v7 &&& 31)) &&& 1) = 1
    · have h := h.1 c6
      refine ab_callS (me2 := mt_M_has) (as := [.int v3, .int v7]) (st := []) (rv := (some (.int 1))) (M2 := (I, L, ab_RR, n, nc, ns)) d_M_waysAt_230 ce_M_has ⟨v_1648, Or.inl v_1647⟩ (Nat.le_of_ble_eq_true rfl) (cx_M_has_1 v3 v7 hT c6) (Nat.le_refl _) (Nat.le_refl _) hc hs (fun j h9 => by cases h9) (fun _ _ => rfl) ?_
      show ab_E w (d + 1) mt_M_waysAt 233 [.ref mx, .int v1, .int v2, .int v3, .int v4, .int v5, .int v6, .int v7, .null, .null] [.int 1] (I, L, ab_RR, n, nc, ns) res
      refine ab_if_ne (tgt := 239) d_M_waysAt_233 (by decide) (fun _ => ?_) (fun c9 => absurd c9 (show ¬ (1 : Int32) = 0 from by decide))
      refine ab_aload_n (i := 0) d_M_waysAt_239 rfl rfl ?_
      refine ab_getR (ci := 11) (k := 19) (j := mx_piece) d_M_waysAt_240 v_1387 rfl (by decide) (by decide) rfl r_mx_19 ?_
      refine ab_aload_n (i := 0) d_M_waysAt_243 rfl rfl ?_
      refine ab_getR (ci := 11) (k := 4) (j := mx_now) d_M_waysAt_244 v_1372 rfl (by decide) (by decide) rfl r_mx_4 ?_
      refine ab_iconst (v := 3) d_M_waysAt_247 rfl ?_
      refine ab_iload (i := 7) d_M_waysAt_248 rfl ?_
      refine ab_iadd d_M_waysAt_250 ?_
      have g7 := h.1; have h := h.2
      refine ab_iald d_M_waysAt_251 rfl rfl g7 ?_
      have g8 := h.1; have h := h.2
      refine ab_iald d_M_waysAt_252 rfl rfl g8 ?_
      refine ab_istore (i := 8) d_M_waysAt_253 (by decide) (Or.inr rfl) ?_
      refine ab_aload_n (i := 0) d_M_waysAt_255 rfl rfl ?_
      refine ab_getR (ci := 11) (k := 19) (j := mx_piece) d_M_waysAt_256 v_1387 rfl (by decide) (by decide) rfl r_mx_19 ?_
      refine ab_aload_n (i := 0) d_M_waysAt_259 rfl rfl ?_
      refine ab_getR (ci := 11) (k := 4) (j := mx_now) d_M_waysAt_260 v_1372 rfl (by decide) (by decide) rfl r_mx_4 ?_
      refine ab_bipush (v := 27) d_M_waysAt_263 rfl ?_
      refine ab_iload (i := 7) d_M_waysAt_265 rfl ?_
      refine ab_iadd d_M_waysAt_267 ?_
      have g9 := h.1; have h := h.2
      refine ab_iald d_M_waysAt_268 rfl rfl g9 ?_
      have g10 := h.1; have h := h.2
      refine ab_iald d_M_waysAt_269 rfl rfl g10 ?_
      refine ab_istore (i := 9) d_M_waysAt_270 (by decide) (Or.inr rfl) ?_
      refine ab_iload (i := 8) d_M_waysAt_272 rfl ?_
      refine ab_iload (i := 9) d_M_waysAt_274 rfl ?_
      refine ab_icmp_ne (tgt := 282) d_M_waysAt_276 (by decide) (fun c11 => ?_) (fun c11 => ?_)
      · have h := h.1 c11
        refine ab_aload_n (i := 0) d_M_waysAt_282 rfl rfl ?_
        refine ab_aload_n (i := 0) d_M_waysAt_283 rfl rfl ?_
        refine ab_getR (ci := 11) (k := 35) (j := mx_column) d_M_waysAt_284 v_1403 rfl (by decide) (by decide) rfl r_mx_35 ?_
        refine ab_iload (i := 8) d_M_waysAt_287 rfl ?_
        have g12 := h.1; have h := h.2
        refine ab_iald d_M_waysAt_289 rfl rfl g12 ?_
        refine ab_aload_n (i := 0) d_M_waysAt_290 rfl rfl ?_
        refine ab_getR (ci := 11) (k := 35) (j := mx_column) d_M_waysAt_291 v_1403 rfl (by decide) (by decide) rfl r_mx_35 ?_
        refine ab_iload (i := 8) d_M_waysAt_294 rfl ?_
        refine ab_iald d_M_waysAt_296 rfl rfl g12 ?_
        refine ab_lconst (v := 1) d_M_waysAt_297 rfl ?_
        by_cases c15 : (I mx_column (I mx_piece (I mx_now (3 + v7).toNatClampNeg).toNatClampNeg).toNatClampNeg) = (-1)
        · have h := h.1 c15
          refine ab_callV (me2 := mt_M_lays) (b := mx) (as := [.int (I mx_column (I mx_piece (I mx_now (3 + v7).toNatClampNeg).toNatClampNeg).toNatClampNeg), .int (I mx_column (I mx_piece (I mx_now (3 + v7).toNatClampNeg).toNatClampNeg).toNatClampNeg), .long 1]) (st := []) (rv := none) (M2 := (I, L, ab_RR, n, nc, ns)) d_M_waysAt_298 ce_M_lays v_1831 v_1833 v_117 (by decide) rfl (Nat.le_of_ble_eq_true rfl) (cx_M_lays_0 (I mx_column (I mx_piece (I mx_now (3 + v7).toNatClampNeg).toNatClampNeg).toNatClampNeg) (I mx_column (I mx_piece (I mx_now (3 + v7).toNatClampNeg).toNatClampNeg).toNatClampNeg) 1 hT c15) (Nat.le_refl _) (Nat.le_refl _) hc hs (fun j h9 => by cases h9) (fun _ _ => rfl) ?_
          show ab_E w (d + 1) mt_M_waysAt 301 [.ref mx, .int v1, .int v2, .int v3, .int v4, .int v5, .int v6, .int v7, .int (I mx_piece (I mx_now (3 + v7).toNatClampNeg).toNatClampNeg), .int (I mx_piece (I mx_now (27 + v7).toNatClampNeg).toNatClampNeg)] [] (I, L, ab_RR, n, nc, ns) res
          refine ab_aload_n (i := 0) d_M_waysAt_301 rfl rfl ?_
          refine ab_aload_n (i := 0) d_M_waysAt_302 rfl rfl ?_
          refine ab_getR (ci := 11) (k := 35) (j := mx_column) d_M_waysAt_303 v_1403 rfl (by decide) (by decide) rfl r_mx_35 ?_
          refine ab_iload (i := 9) d_M_waysAt_306 rfl ?_
          have g16 := h.1; have h := h.2
          refine ab_iald d_M_waysAt_308 rfl rfl g16 ?_
          refine ab_aload_n (i := 0) d_M_waysAt_309 rfl rfl ?_
          refine ab_getR (ci := 11) (k := 35) (j := mx_column) d_M_waysAt_310 v_1403 rfl (by decide) (by decide) rfl r_mx_35 ?_
          refine ab_iload (i := 9) d_M_waysAt_313 rfl ?_
          refine ab_iald d_M_waysAt_315 rfl rfl g16 ?_
          refine ab_lconst (v := 1) d_M_waysAt_316 rfl ?_
          by_cases c19 : (I mx_column (I mx_piece (I mx_now (27 + v7).toNatClampNeg).toNatClampNeg).toNatClampNeg) = (-1)
          · have h := h.1 c19
            refine ab_callV (me2 := mt_M_lays) (b := mx) (as := [.int (I mx_column (I mx_piece (I mx_now (27 + v7).toNatClampNeg).toNatClampNeg).toNatClampNeg), .int (I mx_column (I mx_piece (I mx_now (27 + v7).toNatClampNeg).toNatClampNeg).toNatClampNeg), .long 1]) (st := []) (rv := none) (M2 := (I, L, ab_RR, n, nc, ns)) d_M_waysAt_317 ce_M_lays v_1831 v_1833 v_117 (by decide) rfl (Nat.le_of_ble_eq_true rfl) (cx_M_lays_0 (I mx_column (I mx_piece (I mx_now (27 + v7).toNatClampNeg).toNatClampNeg).toNatClampNeg) (I mx_column (I mx_piece (I mx_now (27 + v7).toNatClampNeg).toNatClampNeg).toNatClampNeg) 1 hT c19) (Nat.le_refl _) (Nat.le_refl _) hc hs (fun j h9 => by cases h9) (fun _ _ => rfl) ?_
            show ab_E w (d + 1) mt_M_waysAt 320 [.ref mx, .int v1, .int v2, .int v3, .int v4, .int v5, .int v6, .int v7, .int (I mx_piece (I mx_now (3 + v7).toNatClampNeg).toNatClampNeg), .int (I mx_piece (I mx_now (27 + v7).toNatClampNeg).toNatClampNeg)] [] (I, L, ab_RR, n, nc, ns) res
            refine ab_aload_n (i := 0) d_M_waysAt_320 rfl rfl ?_
            refine ab_aload_n (i := 0) d_M_waysAt_321 rfl rfl ?_
            refine ab_getR (ci := 11) (k := 35) (j := mx_column) d_M_waysAt_322 v_1403 rfl (by decide) (by decide) rfl r_mx_35 ?_
            refine ab_iload (i := 8) d_M_waysAt_325 rfl ?_
            refine ab_iald d_M_waysAt_327 rfl rfl g12 ?_
            refine ab_aload_n (i := 0) d_M_waysAt_328 rfl rfl ?_
            refine ab_getR (ci := 11) (k := 35) (j := mx_column) d_M_waysAt_329 v_1403 rfl (by decide) (by decide) rfl r_mx_35 ?_
            refine ab_iload (i := 9) d_M_waysAt_332 rfl ?_
            refine ab_iald d_M_waysAt_334 rfl rfl g16 ?_
            refine ab_ldc2 (v := (-1)) d_M_waysAt_335 v_1835 ?_
            refine ab_callV (me2 := mt_M_lays) (b := mx) (as := [.int (I mx_column (I mx_piece (I mx_now (3 + v7).toNatClampNeg).toNatClampNeg).toNatClampNeg), .int (I mx_column (I mx_piece (I mx_now (27 + v7).toNatClampNeg).toNatClampNeg).toNatClampNeg), .long (-1)]) (st := []) (rv := none) (M2 := (I, L, ab_RR, n, nc, ns)) d_M_waysAt_338 ce_M_lays v_1831 v_1833 v_117 (by decide) rfl (Nat.le_of_ble_eq_true rfl) (cx_M_lays_0 (I mx_column (I mx_piece (I mx_now (3 + v7).toNatClampNeg).toNatClampNeg).toNatClampNeg) (I mx_column (I mx_piece (I mx_now (27 + v7).toNatClampNeg).toNatClampNeg).toNatClampNeg) (-1) hT c15) (Nat.le_refl _) (Nat.le_refl _) hc hs (fun j h9 => by cases h9) (fun _ _ => rfl) ?_
            show ab_E w (d + 1) mt_M_waysAt 341 [.ref mx, .int v1, .int v2, .int v3, .int v4, .int v5, .int v6, .int v7, .int (I mx_piece (I mx_now (3 + v7).toNatClampNeg).toNatClampNeg), .int (I mx_piece (I mx_now (27 + v7).toNatClampNeg).toNatClampNeg)] [] (I, L, ab_RR, n, nc, ns) res
            refine ab_aload_n (i := 0) d_M_waysAt_341 rfl rfl ?_
            refine ab_aload_n (i := 0) d_M_waysAt_342 rfl rfl ?_
            refine ab_getR (ci := 11) (k := 35) (j := mx_column) d_M_waysAt_343 v_1403 rfl (by decide) (by decide) rfl r_mx_35 ?_
            refine ab_iload (i := 9) d_M_waysAt_346 rfl ?_
            refine ab_iald d_M_waysAt_348 rfl rfl g16 ?_
            refine ab_aload_n (i := 0) d_M_waysAt_349 rfl rfl ?_
            refine ab_getR (ci := 11) (k := 35) (j := mx_column) d_M_waysAt_350 v_1403 rfl (by decide) (by decide) rfl r_mx_35 ?_
            refine ab_iload (i := 8) d_M_waysAt_353 rfl ?_
            refine ab_iald d_M_waysAt_355 rfl rfl g12 ?_
            refine ab_ldc2 (v := (-1)) d_M_waysAt_356 v_1835 ?_
            refine ab_callV (me2 := mt_M_lays) (b := mx) (as := [.int (I mx_column (I mx_piece (I mx_now (27 + v7).toNatClampNeg).toNatClampNeg).toNatClampNeg), .int (I mx_column (I mx_piece (I mx_now (3 + v7).toNatClampNeg).toNatClampNeg).toNatClampNeg), .long (-1)]) (st := []) (rv := none) (M2 := (I, L, ab_RR, n, nc, ns)) d_M_waysAt_359 ce_M_lays v_1831 v_1833 v_117 (by decide) rfl (Nat.le_of_ble_eq_true rfl) (cx_M_lays_0 (I mx_column (I mx_piece (I mx_now (27 + v7).toNatClampNeg).toNatClampNeg).toNatClampNeg) (I mx_column (I mx_piece (I mx_now (3 + v7).toNatClampNeg).toNatClampNeg).toNatClampNeg) (-1) hT c19) (Nat.le_refl _) (Nat.le_refl _) hc hs (fun j h9 => by cases h9) (fun _ _ => rfl) ?_
            show ab_E w (d + 1) mt_M_waysAt 362 [.ref mx, .int v1, .int v2, .int v3, .int v4, .int v5, .int v6, .int v7, .int (I mx_piece (I mx_now (3 + v7).toNatClampNeg).toNatClampNeg), .int (I mx_piece (I mx_now (27 + v7).toNatClampNeg).toNatClampNeg)] [] (I, L, ab_RR, n, nc, ns) res
            refine ab_drop 8 ?_
            refine ab_drop 9 ?_
            exact h
          · have h := h.2 c19
            have g24 := h.1; have h := h.2
            refine ab_callV (me2 := mt_M_lays) (b := mx) (as := [.int (I mx_column (I mx_piece (I mx_now (27 + v7).toNatClampNeg).toNatClampNeg).toNatClampNeg), .int (I mx_column (I mx_piece (I mx_now (27 + v7).toNatClampNeg).toNatClampNeg).toNatClampNeg), .long 1]) (st := []) (rv := none) (M2 := (I, (ab_upL L mx_laplace ((10 * (I mx_column (I mx_piece (I mx_now (27 + v7).toNatClampNeg).toNatClampNeg).toNatClampNeg)) + (I mx_column (I mx_piece (I mx_now (27 + v7).toNatClampNeg).toNatClampNeg).toNatClampNeg)).toNatClampNeg ((L mx_laplace ((10 * (I mx_column (I mx_piece (I mx_now (27 + v7).toNatClampNeg).toNatClampNeg).toNatClampNeg)) + (I mx_column (I mx_piece (I mx_now (27 + v7).toNatClampNeg).toNatClampNeg).toNatClampNeg)).toNatClampNeg) + 1)), ab_RR, n, nc, ns)) d_M_waysAt_317 ce_M_lays v_1831 v_1833 v_117 (by decide) rfl (Nat.le_of_ble_eq_true rfl) (cx_M_lays_2 (I mx_column (I mx_piece (I mx_now (27 + v7).toNatClampNeg).toNatClampNeg).toNatClampNeg) (I mx_column (I mx_piece (I mx_now (27 + v7).toNatClampNeg).toNatClampNeg).toNatClampNeg) 1 hT c19 c19 g24 g24) (Nat.le_refl _) (Nat.le_refl _) hc hs (fun j h9 => by cases h9) (fun _ _ => rfl) ?_
            show ab_E w (d + 1) mt_M_waysAt 320 [.ref mx, .int v1, .int v2, .int v3, .int v4, .int v5, .int v6, .int v7, .int (I mx_piece (I mx_now (3 + v7).toNatClampNeg).toNatClampNeg), .int (I mx_piece (I mx_now (27 + v7).toNatClampNeg).toNatClampNeg)] [] (I, (ab_upL L mx_laplace ((10 * (I mx_column (I mx_piece (I mx_now (27 + v7).toNatClampNeg).toNatClampNeg).toNatClampNeg)) + (I mx_column (I mx_piece (I mx_now (27 + v7).toNatClampNeg).toNatClampNeg).toNatClampNeg)).toNatClampNeg ((L mx_laplace ((10 * (I mx_column (I mx_piece (I mx_now (27 + v7).toNatClampNeg).toNatClampNeg).toNatClampNeg)) + (I mx_column (I mx_piece (I mx_now (27 + v7).toNatClampNeg).toNatClampNeg).toNatClampNeg)).toNatClampNeg) + 1)), ab_RR, n, nc, ns) res
            refine ab_aload_n (i := 0) d_M_waysAt_320 rfl rfl ?_
            refine ab_aload_n (i := 0) d_M_waysAt_321 rfl rfl ?_
            refine ab_getR (ci := 11) (k := 35) (j := mx_column) d_M_waysAt_322 v_1403 rfl (by decide) (by decide) rfl r_mx_35 ?_
            refine ab_iload (i := 8) d_M_waysAt_325 rfl ?_
            refine ab_iald d_M_waysAt_327 rfl rfl g12 ?_
            refine ab_aload_n (i := 0) d_M_waysAt_328 rfl rfl ?_
            refine ab_getR (ci := 11) (k := 35) (j := mx_column) d_M_waysAt_329 v_1403 rfl (by decide) (by decide) rfl r_mx_35 ?_
            refine ab_iload (i := 9) d_M_waysAt_332 rfl ?_
            refine ab_iald d_M_waysAt_334 rfl rfl g16 ?_
            refine ab_ldc2 (v := (-1)) d_M_waysAt_335 v_1835 ?_
            refine ab_callV (me2 := mt_M_lays) (b := mx) (as := [.int (I mx_column (I mx_piece (I mx_now (3 + v7).toNatClampNeg).toNatClampNeg).toNatClampNeg), .int (I mx_column (I mx_piece (I mx_now (27 + v7).toNatClampNeg).toNatClampNeg).toNatClampNeg), .long (-1)]) (st := []) (rv := none) (M2 := (I, (ab_upL L mx_laplace ((10 * (I mx_column (I mx_piece (I mx_now (27 + v7).toNatClampNeg).toNatClampNeg).toNatClampNeg)) + (I mx_column (I mx_piece (I mx_now (27 + v7).toNatClampNeg).toNatClampNeg).toNatClampNeg)).toNatClampNeg ((L mx_laplace ((10 * (I mx_column (I mx_piece (I mx_now (27 + v7).toNatClampNeg).toNatClampNeg).toNatClampNeg)) + (I mx_column (I mx_piece (I mx_now (27 + v7).toNatClampNeg).toNatClampNeg).toNatClampNeg)).toNatClampNeg) + 1)), ab_RR, n, nc, ns)) d_M_waysAt_338 ce_M_lays v_1831 v_1833 v_117 (by decide) rfl (Nat.le_of_ble_eq_true rfl) (cx_M_lays_0 (I mx_column (I mx_piece (I mx_now (3 + v7).toNatClampNeg).toNatClampNeg).toNatClampNeg) (I mx_column (I mx_piece (I mx_now (27 + v7).toNatClampNeg).toNatClampNeg).toNatClampNeg) (-1) hT c15) (Nat.le_refl _) (Nat.le_refl _) hc hs (fun j h9 => by cases h9) (fun _ _ => rfl) ?_
            show ab_E w (d + 1) mt_M_waysAt 341 [.ref mx, .int v1, .int v2, .int v3, .int v4, .int v5, .int v6, .int v7, .int (I mx_piece (I mx_now (3 + v7).toNatClampNeg).toNatClampNeg), .int (I mx_piece (I mx_now (27 + v7).toNatClampNeg).toNatClampNeg)] [] (I, (ab_upL L mx_laplace ((10 * (I mx_column (I mx_piece (I mx_now (27 + v7).toNatClampNeg).toNatClampNeg).toNatClampNeg)) + (I mx_column (I mx_piece (I mx_now (27 + v7).toNatClampNeg).toNatClampNeg).toNatClampNeg)).toNatClampNeg ((L mx_laplace ((10 * (I mx_column (I mx_piece (I mx_now (27 + v7).toNatClampNeg).toNatClampNeg).toNatClampNeg)) + (I mx_column (I mx_piece (I mx_now (27 + v7).toNatClampNeg).toNatClampNeg).toNatClampNeg)).toNatClampNeg) + 1)), ab_RR, n, nc, ns) res
            refine ab_aload_n (i := 0) d_M_waysAt_341 rfl rfl ?_
            refine ab_aload_n (i := 0) d_M_waysAt_342 rfl rfl ?_
            refine ab_getR (ci := 11) (k := 35) (j := mx_column) d_M_waysAt_343 v_1403 rfl (by decide) (by decide) rfl r_mx_35 ?_
            refine ab_iload (i := 9) d_M_waysAt_346 rfl ?_
            refine ab_iald d_M_waysAt_348 rfl rfl g16 ?_
            refine ab_aload_n (i := 0) d_M_waysAt_349 rfl rfl ?_
            refine ab_getR (ci := 11) (k := 35) (j := mx_column) d_M_waysAt_350 v_1403 rfl (by decide) (by decide) rfl r_mx_35 ?_
            refine ab_iload (i := 8) d_M_waysAt_353 rfl ?_
            refine ab_iald d_M_waysAt_355 rfl rfl g12 ?_
            refine ab_ldc2 (v := (-1)) d_M_waysAt_356 v_1835 ?_
            refine ab_callV (me2 := mt_M_lays) (b := mx) (as := [.int (I mx_column (I mx_piece (I mx_now (27 + v7).toNatClampNeg).toNatClampNeg).toNatClampNeg), .int (I mx_column (I mx_piece (I mx_now (3 + v7).toNatClampNeg).toNatClampNeg).toNatClampNeg), .long (-1)]) (st := []) (rv := none) (M2 := (I, (ab_upL L mx_laplace ((10 * (I mx_column (I mx_piece (I mx_now (27 + v7).toNatClampNeg).toNatClampNeg).toNatClampNeg)) + (I mx_column (I mx_piece (I mx_now (27 + v7).toNatClampNeg).toNatClampNeg).toNatClampNeg)).toNatClampNeg ((L mx_laplace ((10 * (I mx_column (I mx_piece (I mx_now (27 + v7).toNatClampNeg).toNatClampNeg).toNatClampNeg)) + (I mx_column (I mx_piece (I mx_now (27 + v7).toNatClampNeg).toNatClampNeg).toNatClampNeg)).toNatClampNeg) + 1)), ab_RR, n, nc, ns)) d_M_waysAt_359 ce_M_lays v_1831 v_1833 v_117 (by decide) rfl (Nat.le_of_ble_eq_true rfl) (cx_M_lays_1 (I mx_column (I mx_piece (I mx_now (27 + v7).toNatClampNeg).toNatClampNeg).toNatClampNeg) (I mx_column (I mx_piece (I mx_now (3 + v7).toNatClampNeg).toNatClampNeg).toNatClampNeg) (-1) hT c19 c15) (Nat.le_refl _) (Nat.le_refl _) hc hs (fun j h9 => by cases h9) (fun _ _ => rfl) ?_
            show ab_E w (d + 1) mt_M_waysAt 362 [.ref mx, .int v1, .int v2, .int v3, .int v4, .int v5, .int v6, .int v7, .int (I mx_piece (I mx_now (3 + v7).toNatClampNeg).toNatClampNeg), .int (I mx_piece (I mx_now (27 + v7).toNatClampNeg).toNatClampNeg)] [] (I, (ab_upL L mx_laplace ((10 * (I mx_column (I mx_piece (I mx_now (27 + v7).toNatClampNeg).toNatClampNeg).toNatClampNeg)) + (I mx_column (I mx_piece (I mx_now (27 + v7).toNatClampNeg).toNatClampNeg).toNatClampNeg)).toNatClampNeg ((L mx_laplace ((10 * (I mx_column (I mx_piece (I mx_now (27 + v7).toNatClampNeg).toNatClampNeg).toNatClampNeg)) + (I mx_column (I mx_piece (I mx_now (27 + v7).toNatClampNeg).toNatClampNeg).toNatClampNeg)).toNatClampNeg) + 1)), ab_RR, n, nc, ns) res
            refine ab_drop 8 ?_
            refine ab_drop 9 ?_
            exact h
        · have h := h.2 c15
          have g29 := h.1; have h := h.2
          refine ab_callV (me2 := mt_M_lays) (b := mx) (as := [.int (I mx_column (I mx_piece (I mx_now (3 + v7).toNatClampNeg).toNatClampNeg).toNatClampNeg), .int (I mx_column (I mx_piece (I mx_now (3 + v7).toNatClampNeg).toNatClampNeg).toNatClampNeg), .long 1]) (st := []) (rv := none) (M2 := (I, (ab_upL L mx_laplace ((10 * (I mx_column (I mx_piece (I mx_now (3 + v7).toNatClampNeg).toNatClampNeg).toNatClampNeg)) + (I mx_column (I mx_piece (I mx_now (3 + v7).toNatClampNeg).toNatClampNeg).toNatClampNeg)).toNatClampNeg ((L mx_laplace ((10 * (I mx_column (I mx_piece (I mx_now (3 + v7).toNatClampNeg).toNatClampNeg).toNatClampNeg)) + (I mx_column (I mx_piece (I mx_now (3 + v7).toNatClampNeg).toNatClampNeg).toNatClampNeg)).toNatClampNeg) + 1)), ab_RR, n, nc, ns)) d_M_waysAt_298 ce_M_lays v_1831 v_1833 v_117 (by decide) rfl (Nat.le_of_ble_eq_true rfl) (cx_M_lays_2 (I mx_column (I mx_piece (I mx_now (3 + v7).toNatClampNeg).toNatClampNeg).toNatClampNeg) (I mx_column (I mx_piece (I mx_now (3 + v7).toNatClampNeg).toNatClampNeg).toNatClampNeg) 1 hT c15 c15 g29 g29) (Nat.le_refl _) (Nat.le_refl _) hc hs (fun j h9 => by cases h9) (fun _ _ => rfl) ?_
          show ab_E w (d + 1) mt_M_waysAt 301 [.ref mx, .int v1, .int v2, .int v3, .int v4, .int v5, .int v6, .int v7, .int (I mx_piece (I mx_now (3 + v7).toNatClampNeg).toNatClampNeg), .int (I mx_piece (I mx_now (27 + v7).toNatClampNeg).toNatClampNeg)] [] (I, (ab_upL L mx_laplace ((10 * (I mx_column (I mx_piece (I mx_now (3 + v7).toNatClampNeg).toNatClampNeg).toNatClampNeg)) + (I mx_column (I mx_piece (I mx_now (3 + v7).toNatClampNeg).toNatClampNeg).toNatClampNeg)).toNatClampNeg ((L mx_laplace ((10 * (I mx_column (I mx_piece (I mx_now (3 + v7).toNatClampNeg).toNatClampNeg).toNatClampNeg)) + (I mx_column (I mx_piece (I mx_now (3 + v7).toNatClampNeg).toNatClampNeg).toNatClampNeg)).toNatClampNeg) + 1)), ab_RR, n, nc, ns) res
          refine ab_aload_n (i := 0) d_M_waysAt_301 rfl rfl ?_
          refine ab_aload_n (i := 0) d_M_waysAt_302 rfl rfl ?_
          refine ab_getR (ci := 11) (k := 35) (j := mx_column) d_M_waysAt_303 v_1403 rfl (by decide) (by decide) rfl r_mx_35 ?_
          refine ab_iload (i := 9) d_M_waysAt_306 rfl ?_
          have g30 := h.1; have h := h.2
          refine ab_iald d_M_waysAt_308 rfl rfl g30 ?_
          refine ab_aload_n (i := 0) d_M_waysAt_309 rfl rfl ?_
          refine ab_getR (ci := 11) (k := 35) (j := mx_column) d_M_waysAt_310 v_1403 rfl (by decide) (by decide) rfl r_mx_35 ?_
          refine ab_iload (i := 9) d_M_waysAt_313 rfl ?_
          refine ab_iald d_M_waysAt_315 rfl rfl g30 ?_
          refine ab_lconst (v := 1) d_M_waysAt_316 rfl ?_
          by_cases c33 : (I mx_column (I mx_piece (I mx_now (27 + v7).toNatClampNeg).toNatClampNeg).toNatClampNeg) = (-1)
          · have h := h.1 c33
            refine ab_callV (me2 := mt_M_lays) (b := mx) (as := [.int (I mx_column (I mx_piece (I mx_now (27 + v7).toNatClampNeg).toNatClampNeg).toNatClampNeg), .int (I mx_column (I mx_piece (I mx_now (27 + v7).toNatClampNeg).toNatClampNeg).toNatClampNeg), .long 1]) (st := []) (rv := none) (M2 := (I, (ab_upL L mx_laplace ((10 * (I mx_column (I mx_piece (I mx_now (3 + v7).toNatClampNeg).toNatClampNeg).toNatClampNeg)) + (I mx_column (I mx_piece (I mx_now (3 + v7).toNatClampNeg).toNatClampNeg).toNatClampNeg)).toNatClampNeg ((L mx_laplace ((10 * (I mx_column (I mx_piece (I mx_now (3 + v7).toNatClampNeg).toNatClampNeg).toNatClampNeg)) + (I mx_column (I mx_piece (I mx_now (3 + v7).toNatClampNeg).toNatClampNeg).toNatClampNeg)).toNatClampNeg) + 1)), ab_RR, n, nc, ns)) d_M_waysAt_317 ce_M_lays v_1831 v_1833 v_117 (by decide) rfl (Nat.le_of_ble_eq_true rfl) (cx_M_lays_0 (I mx_column (I mx_piece (I mx_now (27 + v7).toNatClampNeg).toNatClampNeg).toNatClampNeg) (I mx_column (I mx_piece (I mx_now (27 + v7).toNatClampNeg).toNatClampNeg).toNatClampNeg) 1 hT c33) (Nat.le_refl _) (Nat.le_refl _) hc hs (fun j h9 => by cases h9) (fun _ _ => rfl) ?_
            show ab_E w (d + 1) mt_M_waysAt 320 [.ref mx, .int v1, .int v2, .int v3, .int v4, .int v5, .int v6, .int v7, .int (I mx_piece (I mx_now (3 + v7).toNatClampNeg).toNatClampNeg), .int (I mx_piece (I mx_now (27 + v7).toNatClampNeg).toNatClampNeg)] [] (I, (ab_upL L mx_laplace ((10 * (I mx_column (I mx_piece (I mx_now (3 + v7).toNatClampNeg).toNatClampNeg).toNatClampNeg)) + (I mx_column (I mx_piece (I mx_now (3 + v7).toNatClampNeg).toNatClampNeg).toNatClampNeg)).toNatClampNeg ((L mx_laplace ((10 * (I mx_column (I mx_piece (I mx_now (3 + v7).toNatClampNeg).toNatClampNeg).toNatClampNeg)) + (I mx_column (I mx_piece (I mx_now (3 + v7).toNatClampNeg).toNatClampNeg).toNatClampNeg)).toNatClampNeg) + 1)), ab_RR, n, nc, ns) res
            refine ab_aload_n (i := 0) d_M_waysAt_320 rfl rfl ?_
            refine ab_aload_n (i := 0) d_M_waysAt_321 rfl rfl ?_
            refine ab_getR (ci := 11) (k := 35) (j := mx_column) d_M_waysAt_322 v_1403 rfl (by decide) (by decide) rfl r_mx_35 ?_
            refine ab_iload (i := 8) d_M_waysAt_325 rfl ?_
            refine ab_iald d_M_waysAt_327 rfl rfl g12 ?_
            refine ab_aload_n (i := 0) d_M_waysAt_328 rfl rfl ?_
            refine ab_getR (ci := 11) (k := 35) (j := mx_column) d_M_waysAt_329 v_1403 rfl (by decide) (by decide) rfl r_mx_35 ?_
            refine ab_iload (i := 9) d_M_waysAt_332 rfl ?_
            refine ab_iald d_M_waysAt_334 rfl rfl g30 ?_
            refine ab_ldc2 (v := (-1)) d_M_waysAt_335 v_1835 ?_
            refine ab_callV (me2 := mt_M_lays) (b := mx) (as := [.int (I mx_column (I mx_piece (I mx_now (3 + v7).toNatClampNeg).toNatClampNeg).toNatClampNeg), .int (I mx_column (I mx_piece (I mx_now (27 + v7).toNatClampNeg).toNatClampNeg).toNatClampNeg), .long (-1)]) (st := []) (rv := none) (M2 := (I, (ab_upL L mx_laplace ((10 * (I mx_column (I mx_piece (I mx_now (3 + v7).toNatClampNeg).toNatClampNeg).toNatClampNeg)) + (I mx_column (I mx_piece (I mx_now (3 + v7).toNatClampNeg).toNatClampNeg).toNatClampNeg)).toNatClampNeg ((L mx_laplace ((10 * (I mx_column (I mx_piece (I mx_now (3 + v7).toNatClampNeg).toNatClampNeg).toNatClampNeg)) + (I mx_column (I mx_piece (I mx_now (3 + v7).toNatClampNeg).toNatClampNeg).toNatClampNeg)).toNatClampNeg) + 1)), ab_RR, n, nc, ns)) d_M_waysAt_338 ce_M_lays v_1831 v_1833 v_117 (by decide) rfl (Nat.le_of_ble_eq_true rfl) (cx_M_lays_1 (I mx_column (I mx_piece (I mx_now (3 + v7).toNatClampNeg).toNatClampNeg).toNatClampNeg) (I mx_column (I mx_piece (I mx_now (27 + v7).toNatClampNeg).toNatClampNeg).toNatClampNeg) (-1) hT c15 c33) (Nat.le_refl _) (Nat.le_refl _) hc hs (fun j h9 => by cases h9) (fun _ _ => rfl) ?_
            show ab_E w (d + 1) mt_M_waysAt 341 [.ref mx, .int v1, .int v2, .int v3, .int v4, .int v5, .int v6, .int v7, .int (I mx_piece (I mx_now (3 + v7).toNatClampNeg).toNatClampNeg), .int (I mx_piece (I mx_now (27 + v7).toNatClampNeg).toNatClampNeg)] [] (I, (ab_upL L mx_laplace ((10 * (I mx_column (I mx_piece (I mx_now (3 + v7).toNatClampNeg).toNatClampNeg).toNatClampNeg)) + (I mx_column (I mx_piece (I mx_now (3 + v7).toNatClampNeg).toNatClampNeg).toNatClampNeg)).toNatClampNeg ((L mx_laplace ((10 * (I mx_column (I mx_piece (I mx_now (3 + v7).toNatClampNeg).toNatClampNeg).toNatClampNeg)) + (I mx_column (I mx_piece (I mx_now (3 + v7).toNatClampNeg).toNatClampNeg).toNatClampNeg)).toNatClampNeg) + 1)), ab_RR, n, nc, ns) res
            refine ab_aload_n (i := 0) d_M_waysAt_341 rfl rfl ?_
            refine ab_aload_n (i := 0) d_M_waysAt_342 rfl rfl ?_
            refine ab_getR (ci := 11) (k := 35) (j := mx_column) d_M_waysAt_343 v_1403 rfl (by decide) (by decide) rfl r_mx_35 ?_
            refine ab_iload (i := 9) d_M_waysAt_346 rfl ?_
            refine ab_iald d_M_waysAt_348 rfl rfl g30 ?_
            refine ab_aload_n (i := 0) d_M_waysAt_349 rfl rfl ?_
            refine ab_getR (ci := 11) (k := 35) (j := mx_column) d_M_waysAt_350 v_1403 rfl (by decide) (by decide) rfl r_mx_35 ?_
            refine ab_iload (i := 8) d_M_waysAt_353 rfl ?_
            refine ab_iald d_M_waysAt_355 rfl rfl g12 ?_
            refine ab_ldc2 (v := (-1)) d_M_waysAt_356 v_1835 ?_
            refine ab_callV (me2 := mt_M_lays) (b := mx) (as := [.int (I mx_column (I mx_piece (I mx_now (27 + v7).toNatClampNeg).toNatClampNeg).toNatClampNeg), .int (I mx_column (I mx_piece (I mx_now (3 + v7).toNatClampNeg).toNatClampNeg).toNatClampNeg), .long (-1)]) (st := []) (rv := none) (M2 := (I, (ab_upL L mx_laplace ((10 * (I mx_column (I mx_piece (I mx_now (3 + v7).toNatClampNeg).toNatClampNeg).toNatClampNeg)) + (I mx_column (I mx_piece (I mx_now (3 + v7).toNatClampNeg).toNatClampNeg).toNatClampNeg)).toNatClampNeg ((L mx_laplace ((10 * (I mx_column (I mx_piece (I mx_now (3 + v7).toNatClampNeg).toNatClampNeg).toNatClampNeg)) + (I mx_column (I mx_piece (I mx_now (3 + v7).toNatClampNeg).toNatClampNeg).toNatClampNeg)).toNatClampNeg) + 1)), ab_RR, n, nc, ns)) d_M_waysAt_359 ce_M_lays v_1831 v_1833 v_117 (by decide) rfl (Nat.le_of_ble_eq_true rfl) (cx_M_lays_0 (I mx_column (I mx_piece (I mx_now (27 + v7).toNatClampNeg).toNatClampNeg).toNatClampNeg) (I mx_column (I mx_piece (I mx_now (3 + v7).toNatClampNeg).toNatClampNeg).toNatClampNeg) (-1) hT c33) (Nat.le_refl _) (Nat.le_refl _) hc hs (fun j h9 => by cases h9) (fun _ _ => rfl) ?_
            show ab_E w (d + 1) mt_M_waysAt 362 [.ref mx, .int v1, .int v2, .int v3, .int v4, .int v5, .int v6, .int v7, .int (I mx_piece (I mx_now (3 + v7).toNatClampNeg).toNatClampNeg), .int (I mx_piece (I mx_now (27 + v7).toNatClampNeg).toNatClampNeg)] [] (I, (ab_upL L mx_laplace ((10 * (I mx_column (I mx_piece (I mx_now (3 + v7).toNatClampNeg).toNatClampNeg).toNatClampNeg)) + (I mx_column (I mx_piece (I mx_now (3 + v7).toNatClampNeg).toNatClampNeg).toNatClampNeg)).toNatClampNeg ((L mx_laplace ((10 * (I mx_column (I mx_piece (I mx_now (3 + v7).toNatClampNeg).toNatClampNeg).toNatClampNeg)) + (I mx_column (I mx_piece (I mx_now (3 + v7).toNatClampNeg).toNatClampNeg).toNatClampNeg)).toNatClampNeg) + 1)), ab_RR, n, nc, ns) res
            refine ab_drop 8 ?_
            refine ab_drop 9 ?_
            exact h
          · have h := h.2 c33
            have g38 := h.1; have h := h.2
            refine ab_callV (me2 := mt_M_lays) (b := mx) (as := [.int (I mx_column (I mx_piece (I mx_now (27 + v7).toNatClampNeg).toNatClampNeg).toNatClampNeg), .int (I mx_column (I mx_piece (I mx_now (27 + v7).toNatClampNeg).toNatClampNeg).toNatClampNeg), .long 1]) (st := []) (rv := none) (M2 := (I, (ab_upL (ab_upL L mx_laplace ((10 * (I mx_column (I mx_piece (I mx_now (3 + v7).toNatClampNeg).toNatClampNeg).toNatClampNeg)) + (I mx_column (I mx_piece (I mx_now (3 + v7).toNatClampNeg).toNatClampNeg).toNatClampNeg)).toNatClampNeg ((L mx_laplace ((10 * (I mx_column (I mx_piece (I mx_now (3 + v7).toNatClampNeg).toNatClampNeg).toNatClampNeg)) + (I mx_column (I mx_piece (I mx_now (3 + v7).toNatClampNeg).toNatClampNeg).toNatClampNeg)).toNatClampNeg) + 1)) mx_laplace ((10 * (I mx_column (I mx_piece (I mx_now (27 + v7).toNatClampNeg).toNatClampNeg).toNatClampNeg)) + (I mx_column (I mx_piece (I mx_now (27 + v7).toNatClampNeg).toNatClampNeg).toNatClampNeg)).toNatClampNeg (((ab_upL L mx_laplace ((10 * (I mx_column (I mx_piece (I mx_now (3 + v7).toNatClampNeg).toNatClampNeg).toNatClampNeg)) + (I mx_column (I mx_piece (I mx_now (3 + v7).toNatClampNeg).toNatClampNeg).toNatClampNeg)).toNatClampNeg ((L mx_laplace ((10 * (I mx_column (I mx_piece (I mx_now (3 + v7).toNatClampNeg).toNatClampNeg).toNatClampNeg)) + (I mx_column (I mx_piece (I mx_now (3 + v7).toNatClampNeg).toNatClampNeg).toNatClampNeg)).toNatClampNeg) + 1)) mx_laplace ((10 * (I mx_column (I mx_piece (I mx_now (27 + v7).toNatClampNeg).toNatClampNeg).toNatClampNeg)) + (I mx_column (I mx_piece (I mx_now (27 + v7).toNatClampNeg).toNatClampNeg).toNatClampNeg)).toNatClampNeg) + 1)), ab_RR, n, nc, ns)) d_M_waysAt_317 ce_M_lays v_1831 v_1833 v_117 (by decide) rfl (Nat.le_of_ble_eq_true rfl) (cx_M_lays_2 (I mx_column (I mx_piece (I mx_now (27 + v7).toNatClampNeg).toNatClampNeg).toNatClampNeg) (I mx_column (I mx_piece (I mx_now (27 + v7).toNatClampNeg).toNatClampNeg).toNatClampNeg) 1 hT c33 c33 g38 g38) (Nat.le_refl _) (Nat.le_refl _) hc hs (fun j h9 => by cases h9) (fun _ _ => rfl) ?_
            show ab_E w (d + 1) mt_M_waysAt 320 [.ref mx, .int v1, .int v2, .int v3, .int v4, .int v5, .int v6, .int v7, .int (I mx_piece (I mx_now (3 + v7).toNatClampNeg).toNatClampNeg), .int (I mx_piece (I mx_now (27 + v7).toNatClampNeg).toNatClampNeg)] [] (I, (ab_upL (ab_upL L mx_laplace ((10 * (I mx_column (I mx_piece (I mx_now (3 + v7).toNatClampNeg).toNatClampNeg).toNatClampNeg)) + (I mx_column (I mx_piece (I mx_now (3 + v7).toNatClampNeg).toNatClampNeg).toNatClampNeg)).toNatClampNeg ((L mx_laplace ((10 * (I mx_column (I mx_piece (I mx_now (3 + v7).toNatClampNeg).toNatClampNeg).toNatClampNeg)) + (I mx_column (I mx_piece (I mx_now (3 + v7).toNatClampNeg).toNatClampNeg).toNatClampNeg)).toNatClampNeg) + 1)) mx_laplace ((10 * (I mx_column (I mx_piece (I mx_now (27 + v7).toNatClampNeg).toNatClampNeg).toNatClampNeg)) + (I mx_column (I mx_piece (I mx_now (27 + v7).toNatClampNeg).toNatClampNeg).toNatClampNeg)).toNatClampNeg (((ab_upL L mx_laplace ((10 * (I mx_column (I mx_piece (I mx_now (3 + v7).toNatClampNeg).toNatClampNeg).toNatClampNeg)) + (I mx_column (I mx_piece (I mx_now (3 + v7).toNatClampNeg).toNatClampNeg).toNatClampNeg)).toNatClampNeg ((L mx_laplace ((10 * (I mx_column (I mx_piece (I mx_now (3 + v7).toNatClampNeg).toNatClampNeg).toNatClampNeg)) + (I mx_column (I mx_piece (I mx_now (3 + v7).toNatClampNeg).toNatClampNeg).toNatClampNeg)).toNatClampNeg) + 1)) mx_laplace ((10 * (I mx_column (I mx_piece (I mx_now (27 + v7).toNatClampNeg).toNatClampNeg).toNatClampNeg)) + (I mx_column (I mx_piece (I mx_now (27 + v7).toNatClampNeg).toNatClampNeg).toNatClampNeg)).toNatClampNeg) + 1)), ab_RR, n, nc, ns) res
            refine ab_aload_n (i := 0) d_M_waysAt_320 rfl rfl ?_
            refine ab_aload_n (i := 0) d_M_waysAt_321 rfl rfl ?_
            refine ab_getR (ci := 11) (k := 35) (j := mx_column) d_M_waysAt_322 v_1403 rfl (by decide) (by decide) rfl r_mx_35 ?_
            refine ab_iload (i := 8) d_M_waysAt_325 rfl ?_
            refine ab_iald d_M_waysAt_327 rfl rfl g12 ?_
            refine ab_aload_n (i := 0) d_M_waysAt_328 rfl rfl ?_
            refine ab_getR (ci := 11) (k := 35) (j := mx_column) d_M_waysAt_329 v_1403 rfl (by decide) (by decide) rfl r_mx_35 ?_
            refine ab_iload (i := 9) d_M_waysAt_332 rfl ?_
            refine ab_iald d_M_waysAt_334 rfl rfl g30 ?_
            refine ab_ldc2 (v := (-1)) d_M_waysAt_335 v_1835 ?_
            have g41 := h.1; have h := h.2
            refine ab_callV (me2 := mt_M_lays) (b := mx) (as := [.int (I mx_column (I mx_piece (I mx_now (3 + v7).toNatClampNeg).toNatClampNeg).toNatClampNeg), .int (I mx_column (I mx_piece (I mx_now (27 + v7).toNatClampNeg).toNatClampNeg).toNatClampNeg), .long (-1)]) (st := []) (rv := none) (M2 := (I, (ab_upL (ab_upL (ab_upL L mx_laplace ((10 * (I mx_column (I mx_piece (I mx_now (3 + v7).toNatClampNeg).toNatClampNeg).toNatClampNeg)) + (I mx_column (I mx_piece (I mx_now (3 + v7).toNatClampNeg).toNatClampNeg).toNatClampNeg)).toNatClampNeg ((L mx_laplace ((10 * (I mx_column (I mx_piece (I mx_now (3 + v7).toNatClampNeg).toNatClampNeg).toNatClampNeg)) + (I mx_column (I mx_piece (I mx_now (3 + v7).toNatClampNeg).toNatClampNeg).toNatClampNeg)).toNatClampNeg) + 1)) mx_laplace ((10 * (I mx_column (I mx_piece (I mx_now (27 + v7).toNatClampNeg).toNatClampNeg).toNatClampNeg)) + (I mx_column (I mx_piece (I mx_now (27 + v7).toNatClampNeg).toNatClampNeg).toNatClampNeg)).toNatClampNeg (((ab_upL L mx_laplace ((10 * (I mx_column (I mx_piece (I mx_now (3 + v7).toNatClampNeg).toNatClampNeg).toNatClampNeg)) + (I mx_column (I mx_piece (I mx_now (3 + v7).toNatClampNeg).toNatClampNeg).toNatClampNeg)).toNatClampNeg ((L mx_laplace ((10 * (I mx_column (I mx_piece (I mx_now (3 + v7).toNatClampNeg).toNatClampNeg).toNatClampNeg)) + (I mx_column (I mx_piece (I mx_now (3 + v7).toNatClampNeg).toNatClampNeg).toNatClampNeg)).toNatClampNeg) + 1)) mx_laplace ((10 * (I mx_column (I mx_piece (I mx_now (27 + v7).toNatClampNeg).toNatClampNeg).toNatClampNeg)) + (I mx_column (I mx_piece (I mx_now (27 + v7).toNatClampNeg).toNatClampNeg).toNatClampNeg)).toNatClampNeg) + 1)) mx_laplace ((10 * (I mx_column (I mx_piece (I mx_now (3 + v7).toNatClampNeg).toNatClampNeg).toNatClampNeg)) + (I mx_column (I mx_piece (I mx_now (27 + v7).toNatClampNeg).toNatClampNeg).toNatClampNeg)).toNatClampNeg (((ab_upL (ab_upL L mx_laplace ((10 * (I mx_column (I mx_piece (I mx_now (3 + v7).toNatClampNeg).toNatClampNeg).toNatClampNeg)) + (I mx_column (I mx_piece (I mx_now (3 + v7).toNatClampNeg).toNatClampNeg).toNatClampNeg)).toNatClampNeg ((L mx_laplace ((10 * (I mx_column (I mx_piece (I mx_now (3 + v7).toNatClampNeg).toNatClampNeg).toNatClampNeg)) + (I mx_column (I mx_piece (I mx_now (3 + v7).toNatClampNeg).toNatClampNeg).toNatClampNeg)).toNatClampNeg) + 1)) mx_laplace ((10 * (I mx_column (I mx_piece (I mx_now (27 + v7).toNatClampNeg).toNatClampNeg).toNatClampNeg)) + (I mx_column (I mx_piece (I mx_now (27 + v7).toNatClampNeg).toNatClampNeg).toNatClampNeg)).toNatClampNeg (((ab_upL L mx_laplace ((10 * (I mx_column (I mx_piece (I mx_now (3 + v7).toNatClampNeg).toNatClampNeg).toNatClampNeg)) + (I mx_column (I mx_piece (I mx_now (3 + v7).toNatClampNeg).toNatClampNeg).toNatClampNeg)).toNatClampNeg ((L mx_laplace ((10 * (I mx_column (I mx_piece (I mx_now (3 + v7).toNatClampNeg).toNatClampNeg).toNatClampNeg)) + (I mx_column (I mx_piece (I mx_now (3 + v7).toNatClampNeg).toNatClampNeg).toNatClampNeg)).toNatClampNeg) + 1)) mx_laplace ((10 * (I mx_column (I mx_piece (I mx_now (27 + v7).toNatClampNeg).toNatClampNeg).toNatClampNeg)) + (I mx_column (I mx_piece (I mx_now (27 + v7).toNatClampNeg).toNatClampNeg).toNatClampNeg)).toNatClampNeg) + 1)) mx_laplace ((10 * (I mx_column (I mx_piece (I mx_now (3 + v7).toNatClampNeg).toNatClampNeg).toNatClampNeg)) + (I mx_column (I mx_piece (I mx_now (27 + v7).toNatClampNeg).toNatClampNeg).toNatClampNeg)).toNatClampNeg) + (-1))), ab_RR, n, nc, ns)) d_M_waysAt_338 ce_M_lays v_1831 v_1833 v_117 (by decide) rfl (Nat.le_of_ble_eq_true rfl) (cx_M_lays_2 (I mx_column (I mx_piece (I mx_now (3 + v7).toNatClampNeg).toNatClampNeg).toNatClampNeg) (I mx_column (I mx_piece (I mx_now (27 + v7).toNatClampNeg).toNatClampNeg).toNatClampNeg) (-1) hT c15 c33 g41 g41) (Nat.le_refl _) (Nat.le_refl _) hc hs (fun j h9 => by cases h9) (fun _ _ => rfl) ?_
            show ab_E w (d + 1) mt_M_waysAt 341 [.ref mx, .int v1, .int v2, .int v3, .int v4, .int v5, .int v6, .int v7, .int (I mx_piece (I mx_now (3 + v7).toNatClampNeg).toNatClampNeg), .int (I mx_piece (I mx_now (27 + v7).toNatClampNeg).toNatClampNeg)] [] (I, (ab_upL (ab_upL (ab_upL L mx_laplace ((10 * (I mx_column (I mx_piece (I mx_now (3 + v7).toNatClampNeg).toNatClampNeg).toNatClampNeg)) + (I mx_column (I mx_piece (I mx_now (3 + v7).toNatClampNeg).toNatClampNeg).toNatClampNeg)).toNatClampNeg ((L mx_laplace ((10 * (I mx_column (I mx_piece (I mx_now (3 + v7).toNatClampNeg).toNatClampNeg).toNatClampNeg)) + (I mx_column (I mx_piece (I mx_now (3 + v7).toNatClampNeg).toNatClampNeg).toNatClampNeg)).toNatClampNeg) + 1)) mx_laplace ((10 * (I mx_column (I mx_piece (I mx_now (27 + v7).toNatClampNeg).toNatClampNeg).toNatClampNeg)) + (I mx_column (I mx_piece (I mx_now (27 + v7).toNatClampNeg).toNatClampNeg).toNatClampNeg)).toNatClampNeg (((ab_upL L mx_laplace ((10 * (I mx_column (I mx_piece (I mx_now (3 + v7).toNatClampNeg).toNatClampNeg).toNatClampNeg)) + (I mx_column (I mx_piece (I mx_now (3 + v7).toNatClampNeg).toNatClampNeg).toNatClampNeg)).toNatClampNeg ((L mx_laplace ((10 * (I mx_column (I mx_piece (I mx_now (3 + v7).toNatClampNeg).toNatClampNeg).toNatClampNeg)) + (I mx_column (I mx_piece (I mx_now (3 + v7).toNatClampNeg).toNatClampNeg).toNatClampNeg)).toNatClampNeg) + 1)) mx_laplace ((10 * (I mx_column (I mx_piece (I mx_now (27 + v7).toNatClampNeg).toNatClampNeg).toNatClampNeg)) + (I mx_column (I mx_piece (I mx_now (27 + v7).toNatClampNeg).toNatClampNeg).toNatClampNeg)).toNatClampNeg) + 1)) mx_laplace ((10 * (I mx_column (I mx_piece (I mx_now (3 + v7).toNatClampNeg).toNatClampNeg).toNatClampNeg)) + (I mx_column (I mx_piece (I mx_now (27 + v7).toNatClampNeg).toNatClampNeg).toNatClampNeg)).toNatClampNeg (((ab_upL (ab_upL L mx_laplace ((10 * (I mx_column (I mx_piece (I mx_now (3 + v7).toNatClampNeg).toNatClampNeg).toNatClampNeg)) + (I mx_column (I mx_piece (I mx_now (3 + v7).toNatClampNeg).toNatClampNeg).toNatClampNeg)).toNatClampNeg ((L mx_laplace ((10 * (I mx_column (I mx_piece (I mx_now (3 + v7).toNatClampNeg).toNatClampNeg).toNatClampNeg)) + (I mx_column (I mx_piece (I mx_now (3 + v7).toNatClampNeg).toNatClampNeg).toNatClampNeg)).toNatClampNeg) + 1)) mx_laplace ((10 * (I mx_column (I mx_piece (I mx_now (27 + v7).toNatClampNeg).toNatClampNeg).toNatClampNeg)) + (I mx_column (I mx_piece (I mx_now (27 + v7).toNatClampNeg).toNatClampNeg).toNatClampNeg)).toNatClampNeg (((ab_upL L mx_laplace ((10 * (I mx_column (I mx_piece (I mx_now (3 + v7).toNatClampNeg).toNatClampNeg).toNatClampNeg)) + (I mx_column (I mx_piece (I mx_now (3 + v7).toNatClampNeg).toNatClampNeg).toNatClampNeg)).toNatClampNeg ((L mx_laplace ((10 * (I mx_column (I mx_piece (I mx_now (3 + v7).toNatClampNeg).toNatClampNeg).toNatClampNeg)) + (I mx_column (I mx_piece (I mx_now (3 + v7).toNatClampNeg).toNatClampNeg).toNatClampNeg)).toNatClampNeg) + 1)) mx_laplace ((10 * (I mx_column (I mx_piece (I mx_now (27 + v7).toNatClampNeg).toNatClampNeg).toNatClampNeg)) + (I mx_column (I mx_piece (I mx_now (27 + v7).toNatClampNeg).toNatClampNeg).toNatClampNeg)).toNatClampNeg) + 1)) mx_laplace ((10 * (I mx_column (I mx_piece (I mx_now (3 + v7).toNatClampNeg).toNatClampNeg).toNatClampNeg)) + (I mx_column (I mx_piece (I mx_now (27 + v7).toNatClampNeg).toNatClampNeg).toNatClampNeg)).toNatClampNeg) + (-1))), ab_RR, n, nc, ns) res
            refine ab_aload_n (i := 0) d_M_waysAt_341 rfl rfl ?_
            refine ab_aload_n (i := 0) d_M_waysAt_342 rfl rfl ?_
            refine ab_getR (ci := 11) (k := 35) (j := mx_column) d_M_waysAt_343 v_1403 rfl (by decide) (by decide) rfl r_mx_35 ?_
            refine ab_iload (i := 9) d_M_waysAt_346 rfl ?_
            refine ab_iald d_M_waysAt_348 rfl rfl g30 ?_
            refine ab_aload_n (i := 0) d_M_waysAt_349 rfl rfl ?_
            refine ab_getR (ci := 11) (k := 35) (j := mx_column) d_M_waysAt_350 v_1403 rfl (by decide) (by decide) rfl r_mx_35 ?_
            refine ab_iload (i := 8) d_M_waysAt_353 rfl ?_
            refine ab_iald d_M_waysAt_355 rfl rfl g12 ?_
            refine ab_ldc2 (v := (-1)) d_M_waysAt_356 v_1835 ?_
            have g44 := h.1; have h := h.2
            refine ab_callV (me2 := mt_M_lays) (b := mx) (as := [.int (I mx_column (I mx_piece (I mx_now (27 + v7).toNatClampNeg).toNatClampNeg).toNatClampNeg), .int (I mx_column (I mx_piece (I mx_now (3 + v7).toNatClampNeg).toNatClampNeg).toNatClampNeg), .long (-1)]) (st := []) (rv := none) (M2 := (I, (ab_upL (ab_upL (ab_upL (ab_upL L mx_laplace ((10 * (I mx_column (I mx_piece (I mx_now (3 + v7).toNatClampNeg).toNatClampNeg).toNatClampNeg)) + (I mx_column (I mx_piece (I mx_now (3 + v7).toNatClampNeg).toNatClampNeg).toNatClampNeg)).toNatClampNeg ((L mx_laplace ((10 * (I mx_column (I mx_piece (I mx_now (3 + v7).toNatClampNeg).toNatClampNeg).toNatClampNeg)) + (I mx_column (I mx_piece (I mx_now (3 + v7).toNatClampNeg).toNatClampNeg).toNatClampNeg)).toNatClampNeg) + 1)) mx_laplace ((10 * (I mx_column (I mx_piece (I mx_now (27 + v7).toNatClampNeg).toNatClampNeg).toNatClampNeg)) + (I mx_column (I mx_piece (I mx_now (27 + v7).toNatClampNeg).toNatClampNeg).toNatClampNeg)).toNatClampNeg (((ab_upL L mx_laplace ((10 * (I mx_column (I mx_piece (I mx_now (3 + v7).toNatClampNeg).toNatClampNeg).toNatClampNeg)) + (I mx_column (I mx_piece (I mx_now (3 + v7).toNatClampNeg).toNatClampNeg).toNatClampNeg)).toNatClampNeg ((L mx_laplace ((10 * (I mx_column (I mx_piece (I mx_now (3 + v7).toNatClampNeg).toNatClampNeg).toNatClampNeg)) + (I mx_column (I mx_piece (I mx_now (3 + v7).toNatClampNeg).toNatClampNeg).toNatClampNeg)).toNatClampNeg) + 1)) mx_laplace ((10 * (I mx_column (I mx_piece (I mx_now (27 + v7).toNatClampNeg).toNatClampNeg).toNatClampNeg)) + (I mx_column (I mx_piece (I mx_now (27 + v7).toNatClampNeg).toNatClampNeg).toNatClampNeg)).toNatClampNeg) + 1)) mx_laplace ((10 * (I mx_column (I mx_piece (I mx_now (3 + v7).toNatClampNeg).toNatClampNeg).toNatClampNeg)) + (I mx_column (I mx_piece (I mx_now (27 + v7).toNatClampNeg).toNatClampNeg).toNatClampNeg)).toNatClampNeg (((ab_upL (ab_upL L mx_laplace ((10 * (I mx_column (I mx_piece (I mx_now (3 + v7).toNatClampNeg).toNatClampNeg).toNatClampNeg)) + (I mx_column (I mx_piece (I mx_now (3 + v7).toNatClampNeg).toNatClampNeg).toNatClampNeg)).toNatClampNeg ((L mx_laplace ((10 * (I mx_column (I mx_piece (I mx_now (3 + v7).toNatClampNeg).toNatClampNeg).toNatClampNeg)) + (I mx_column (I mx_piece (I mx_now (3 + v7).toNatClampNeg).toNatClampNeg).toNatClampNeg)).toNatClampNeg) + 1)) mx_laplace ((10 * (I mx_column (I mx_piece (I mx_now (27 + v7).toNatClampNeg).toNatClampNeg).toNatClampNeg)) + (I mx_column (I mx_piece (I mx_now (27 + v7).toNatClampNeg).toNatClampNeg).toNatClampNeg)).toNatClampNeg (((ab_upL L mx_laplace ((10 * (I mx_column (I mx_piece (I mx_now (3 + v7).toNatClampNeg).toNatClampNeg).toNatClampNeg)) + (I mx_column (I mx_piece (I mx_now (3 + v7).toNatClampNeg).toNatClampNeg).toNatClampNeg)).toNatClampNeg ((L mx_laplace ((10 * (I mx_column (I mx_piece (I mx_now (3 + v7).toNatClampNeg).toNatClampNeg).toNatClampNeg)) + (I mx_column (I mx_piece (I mx_now (3 + v7).toNatClampNeg).toNatClampNeg).toNatClampNeg)).toNatClampNeg) + 1)) mx_laplace ((10 * (I mx_column (I mx_piece (I mx_now (27 + v7).toNatClampNeg).toNatClampNeg).toNatClampNeg)) + (I mx_column (I mx_piece (I mx_now (27 + v7).toNatClampNeg).toNatClampNeg).toNatClampNeg)).toNatClampNeg) + 1)) mx_laplace ((10 * (I mx_column (I mx_piece (I mx_now (3 + v7).toNatClampNeg).toNatClampNeg).toNatClampNeg)) + (I mx_column (I mx_piece (I mx_now (27 + v7).toNatClampNeg).toNatClampNeg).toNatClampNeg)).toNatClampNeg) + (-1))) mx_laplace ((10 * (I mx_column (I mx_piece (I mx_now (27 + v7).toNatClampNeg).toNatClampNeg).toNatClampNeg)) + (I mx_column (I mx_piece (I mx_now (3 + v7).toNatClampNeg).toNatClampNeg).toNatClampNeg)).toNatClampNeg (((ab_upL (ab_upL (ab_upL L mx_laplace ((10 * (I mx_column (I mx_piece (I mx_now (3 + v7).toNatClampNeg).toNatClampNeg).toNatClampNeg)) + (I mx_column (I mx_piece (I mx_now (3 + v7).toNatClampNeg).toNatClampNeg).toNatClampNeg)).toNatClampNeg ((L mx_laplace ((10 * (I mx_column (I mx_piece (I mx_now (3 + v7).toNatClampNeg).toNatClampNeg).toNatClampNeg)) + (I mx_column (I mx_piece (I mx_now (3 + v7).toNatClampNeg).toNatClampNeg).toNatClampNeg)).toNatClampNeg) + 1)) mx_laplace ((10 * (I mx_column (I mx_piece (I mx_now (27 + v7).toNatClampNeg).toNatClampNeg).toNatClampNeg)) + (I mx_column (I mx_piece (I mx_now (27 + v7).toNatClampNeg).toNatClampNeg).toNatClampNeg)).toNatClampNeg (((ab_upL L mx_laplace ((10 * (I mx_column (I mx_piece (I mx_now (3 + v7).toNatClampNeg).toNatClampNeg).toNatClampNeg)) + (I mx_column (I mx_piece (I mx_now (3 + v7).toNatClampNeg).toNatClampNeg).toNatClampNeg)).toNatClampNeg ((L mx_laplace ((10 * (I mx_column (I mx_piece (I mx_now (3 + v7).toNatClampNeg).toNatClampNeg).toNatClampNeg)) + (I mx_column (I mx_piece (I mx_now (3 + v7).toNatClampNeg).toNatClampNeg).toNatClampNeg)).toNatClampNeg) + 1)) mx_laplace ((10 * (I mx_column (I mx_piece (I mx_now (27 + v7).toNatClampNeg).toNatClampNeg).toNatClampNeg)) + (I mx_column (I mx_piece (I mx_now (27 + v7).toNatClampNeg).toNatClampNeg).toNatClampNeg)).toNatClampNeg) + 1)) mx_laplace ((10 * (I mx_column (I mx_piece (I mx_now (3 + v7).toNatClampNeg).toNatClampNeg).toNatClampNeg)) + (I mx_column (I mx_piece (I mx_now (27 + v7).toNatClampNeg).toNatClampNeg).toNatClampNeg)).toNatClampNeg (((ab_upL (ab_upL L mx_laplace ((10 * (I mx_column (I mx_piece (I mx_now (3 + v7).toNatClampNeg).toNatClampNeg).toNatClampNeg)) + (I mx_column (I mx_piece (I mx_now (3 + v7).toNatClampNeg).toNatClampNeg).toNatClampNeg)).toNatClampNeg ((L mx_laplace ((10 * (I mx_column (I mx_piece (I mx_now (3 + v7).toNatClampNeg).toNatClampNeg).toNatClampNeg)) + (I mx_column (I mx_piece (I mx_now (3 + v7).toNatClampNeg).toNatClampNeg).toNatClampNeg)).toNatClampNeg) + 1)) mx_laplace ((10 * (I mx_column (I mx_piece (I mx_now (27 + v7).toNatClampNeg).toNatClampNeg).toNatClampNeg)) + (I mx_column (I mx_piece (I mx_now (27 + v7).toNatClampNeg).toNatClampNeg).toNatClampNeg)).toNatClampNeg (((ab_upL L mx_laplace ((10 * (I mx_column (I mx_piece (I mx_now (3 + v7).toNatClampNeg).toNatClampNeg).toNatClampNeg)) + (I mx_column (I mx_piece (I mx_now (3 + v7).toNatClampNeg).toNatClampNeg).toNatClampNeg)).toNatClampNeg ((L mx_laplace ((10 * (I mx_column (I mx_piece (I mx_now (3 + v7).toNatClampNeg).toNatClampNeg).toNatClampNeg)) + (I mx_column (I mx_piece (I mx_now (3 + v7).toNatClampNeg).toNatClampNeg).toNatClampNeg)).toNatClampNeg) + 1)) mx_laplace ((10 * (I mx_column (I mx_piece (I mx_now (27 + v7).toNatClampNeg).toNatClampNeg).toNatClampNeg)) + (I mx_column (I mx_piece (I mx_now (27 + v7).toNatClampNeg).toNatClampNeg).toNatClampNeg)).toNatClampNeg) + 1)) mx_laplace ((10 * (I mx_column (I mx_piece (I mx_now (3 + v7).toNatClampNeg).toNatClampNeg).toNatClampNeg)) + (I mx_column (I mx_piece (I mx_now (27 + v7).toNatClampNeg).toNatClampNeg).toNatClampNeg)).toNatClampNeg) + (-1))) mx_laplace ((10 * (I mx_column (I mx_piece (I mx_now (27 + v7).toNatClampNeg).toNatClampNeg).toNatClampNeg)) + (I mx_column (I mx_piece (I mx_now (3 + v7).toNatClampNeg).toNatClampNeg).toNatClampNeg)).toNatClampNeg) + (-1))), ab_RR, n, nc, ns)) d_M_waysAt_359 ce_M_lays v_1831 v_1833 v_117 (by decide) rfl (Nat.le_of_ble_eq_true rfl) (cx_M_lays_2 (I mx_column (I mx_piece (I mx_now (27 + v7).toNatClampNeg).toNatClampNeg).toNatClampNeg) (I mx_column (I mx_piece (I mx_now (3 + v7).toNatClampNeg).toNatClampNeg).toNatClampNeg) (-1) hT c33 c15 g44 g44) (Nat.le_refl _) (Nat.le_refl _) hc hs (fun j h9 => by cases h9) (fun _ _ => rfl) ?_
            show ab_E w (d + 1) mt_M_waysAt 362 [.ref mx, .int v1, .int v2, .int v3, .int v4, .int v5, .int v6, .int v7, .int (I mx_piece (I mx_now (3 + v7).toNatClampNeg).toNatClampNeg), .int (I mx_piece (I mx_now (27 + v7).toNatClampNeg).toNatClampNeg)] [] (I, (ab_upL (ab_upL (ab_upL (ab_upL L mx_laplace ((10 * (I mx_column (I mx_piece (I mx_now (3 + v7).toNatClampNeg).toNatClampNeg).toNatClampNeg)) + (I mx_column (I mx_piece (I mx_now (3 + v7).toNatClampNeg).toNatClampNeg).toNatClampNeg)).toNatClampNeg ((L mx_laplace ((10 * (I mx_column (I mx_piece (I mx_now (3 + v7).toNatClampNeg).toNatClampNeg).toNatClampNeg)) + (I mx_column (I mx_piece (I mx_now (3 + v7).toNatClampNeg).toNatClampNeg).toNatClampNeg)).toNatClampNeg) + 1)) mx_laplace ((10 * (I mx_column (I mx_piece (I mx_now (27 + v7).toNatClampNeg).toNatClampNeg).toNatClampNeg)) + (I mx_column (I mx_piece (I mx_now (27 + v7).toNatClampNeg).toNatClampNeg).toNatClampNeg)).toNatClampNeg (((ab_upL L mx_laplace ((10 * (I mx_column (I mx_piece (I mx_now (3 + v7).toNatClampNeg).toNatClampNeg).toNatClampNeg)) + (I mx_column (I mx_piece (I mx_now (3 + v7).toNatClampNeg).toNatClampNeg).toNatClampNeg)).toNatClampNeg ((L mx_laplace ((10 * (I mx_column (I mx_piece (I mx_now (3 + v7).toNatClampNeg).toNatClampNeg).toNatClampNeg)) + (I mx_column (I mx_piece (I mx_now (3 + v7).toNatClampNeg).toNatClampNeg).toNatClampNeg)).toNatClampNeg) + 1)) mx_laplace ((10 * (I mx_column (I mx_piece (I mx_now (27 + v7).toNatClampNeg).toNatClampNeg).toNatClampNeg)) + (I mx_column (I mx_piece (I mx_now (27 + v7).toNatClampNeg).toNatClampNeg).toNatClampNeg)).toNatClampNeg) + 1)) mx_laplace ((10 * (I mx_column (I mx_piece (I mx_now (3 + v7).toNatClampNeg).toNatClampNeg).toNatClampNeg)) + (I mx_column (I mx_piece (I mx_now (27 + v7).toNatClampNeg).toNatClampNeg).toNatClampNeg)).toNatClampNeg (((ab_upL (ab_upL L mx_laplace ((10 * (I mx_column (I mx_piece (I mx_now (3 + v7).toNatClampNeg).toNatClampNeg).toNatClampNeg)) + (I mx_column (I mx_piece (I mx_now (3 + v7).toNatClampNeg).toNatClampNeg).toNatClampNeg)).toNatClampNeg ((L mx_laplace ((10 * (I mx_column (I mx_piece (I mx_now (3 + v7).toNatClampNeg).toNatClampNeg).toNatClampNeg)) + (I mx_column (I mx_piece (I mx_now (3 + v7).toNatClampNeg).toNatClampNeg).toNatClampNeg)).toNatClampNeg) + 1)) mx_laplace ((10 * (I mx_column (I mx_piece (I mx_now (27 + v7).toNatClampNeg).toNatClampNeg).toNatClampNeg)) + (I mx_column (I mx_piece (I mx_now (27 + v7).toNatClampNeg).toNatClampNeg).toNatClampNeg)).toNatClampNeg (((ab_upL L mx_laplace ((10 * (I mx_column (I mx_piece (I mx_now (3 + v7).toNatClampNeg).toNatClampNeg).toNatClampNeg)) + (I mx_column (I mx_piece (I mx_now (3 + v7).toNatClampNeg).toNatClampNeg).toNatClampNeg)).toNatClampNeg ((L mx_laplace ((10 * (I mx_column (I mx_piece (I mx_now (3 + v7).toNatClampNeg).toNatClampNeg).toNatClampNeg)) + (I mx_column (I mx_piece (I mx_now (3 + v7).toNatClampNeg).toNatClampNeg).toNatClampNeg)).toNatClampNeg) + 1)) mx_laplace ((10 * (I mx_column (I mx_piece (I mx_now (27 + v7).toNatClampNeg).toNatClampNeg).toNatClampNeg)) + (I mx_column (I mx_piece (I mx_now (27 + v7).toNatClampNeg).toNatClampNeg).toNatClampNeg)).toNatClampNeg) + 1)) mx_laplace ((10 * (I mx_column (I mx_piece (I mx_now (3 + v7).toNatClampNeg).toNatClampNeg).toNatClampNeg)) + (I mx_column (I mx_piece (I mx_now (27 + v7).toNatClampNeg).toNatClampNeg).toNatClampNeg)).toNatClampNeg) + (-1))) mx_laplace ((10 * (I mx_column (I mx_piece (I mx_now (27 + v7).toNatClampNeg).toNatClampNeg).toNatClampNeg)) + (I mx_column (I mx_piece (I mx_now (3 + v7).toNatClampNeg).toNatClampNeg).toNatClampNeg)).toNatClampNeg (((ab_upL (ab_upL (ab_upL L mx_laplace ((10 * (I mx_column (I mx_piece (I mx_now (3 + v7).toNatClampNeg).toNatClampNeg).toNatClampNeg)) + (I mx_column (I mx_piece (I mx_now (3 + v7).toNatClampNeg).toNatClampNeg).toNatClampNeg)).toNatClampNeg ((L mx_laplace ((10 * (I mx_column (I mx_piece (I mx_now (3 + v7).toNatClampNeg).toNatClampNeg).toNatClampNeg)) + (I mx_column (I mx_piece (I mx_now (3 + v7).toNatClampNeg).toNatClampNeg).toNatClampNeg)).toNatClampNeg) + 1)) mx_laplace ((10 * (I mx_column (I mx_piece (I mx_now (27 + v7).toNatClampNeg).toNatClampNeg).toNatClampNeg)) + (I mx_column (I mx_piece (I mx_now (27 + v7).toNatClampNeg).toNatClampNeg).toNatClampNeg)).toNatClampNeg (((ab_upL L mx_laplace ((10 * (I mx_column (I mx_piece (I mx_now (3 + v7).toNatClampNeg).toNatClampNeg).toNatClampNeg)) + (I mx_column (I mx_piece (I mx_now (3 + v7).toNatClampNeg).toNatClampNeg).toNatClampNeg)).toNatClampNeg ((L mx_laplace ((10 * (I mx_column (I mx_piece (I mx_now (3 + v7).toNatClampNeg).toNatClampNeg).toNatClampNeg)) + (I mx_column (I mx_piece (I mx_now (3 + v7).toNatClampNeg).toNatClampNeg).toNatClampNeg)).toNatClampNeg) + 1)) mx_laplace ((10 * (I mx_column (I mx_piece (I mx_now (27 + v7).toNatClampNeg).toNatClampNeg).toNatClampNeg)) + (I mx_column (I mx_piece (I mx_now (27 + v7).toNatClampNeg).toNatClampNeg).toNatClampNeg)).toNatClampNeg) + 1)) mx_laplace ((10 * (I mx_column (I mx_piece (I mx_now (3 + v7).toNatClampNeg).toNatClampNeg).toNatClampNeg)) + (I mx_column (I mx_piece (I mx_now (27 + v7).toNatClampNeg).toNatClampNeg).toNatClampNeg)).toNatClampNeg (((ab_upL (ab_upL L mx_laplace ((10 * (I mx_column (I mx_piece (I mx_now (3 + v7).toNatClampNeg).toNatClampNeg).toNatClampNeg)) + (I mx_column (I mx_piece (I mx_now (3 + v7).toNatClampNeg).toNatClampNeg).toNatClampNeg)).toNatClampNeg ((L mx_laplace ((10 * (I mx_column (I mx_piece (I mx_now (3 + v7).toNatClampNeg).toNatClampNeg).toNatClampNeg)) + (I mx_column (I mx_piece (I mx_now (3 + v7).toNatClampNeg).toNatClampNeg).toNatClampNeg)).toNatClampNeg) + 1)) mx_laplace ((10 * (I mx_column (I mx_piece (I mx_now (27 + v7).toNatClampNeg).toNatClampNeg).toNatClampNeg)) + (I mx_column (I mx_piece (I mx_now (27 + v7).toNatClampNeg).toNatClampNeg).toNatClampNeg)).toNatClampNeg (((ab_upL L mx_laplace ((10 * (I mx_column (I mx_piece (I mx_now (3 + v7).toNatClampNeg).toNatClampNeg).toNatClampNeg)) + (I mx_column (I mx_piece (I mx_now (3 + v7).toNatClampNeg).toNatClampNeg).toNatClampNeg)).toNatClampNeg ((L mx_laplace ((10 * (I mx_column (I mx_piece (I mx_now (3 + v7).toNatClampNeg).toNatClampNeg).toNatClampNeg)) + (I mx_column (I mx_piece (I mx_now (3 + v7).toNatClampNeg).toNatClampNeg).toNatClampNeg)).toNatClampNeg) + 1)) mx_laplace ((10 * (I mx_column (I mx_piece (I mx_now (27 + v7).toNatClampNeg).toNatClampNeg).toNatClampNeg)) + (I mx_column (I mx_piece (I mx_now (27 + v7).toNatClampNeg).toNatClampNeg).toNatClampNeg)).toNatClampNeg) + 1)) mx_laplace ((10 * (I mx_column (I mx_piece (I mx_now (3 + v7).toNatClampNeg).toNatClampNeg).toNatClampNeg)) + (I mx_column (I mx_piece (I mx_now (27 + v7).toNatClampNeg).toNatClampNeg).toNatClampNeg)).toNatClampNeg) + (-1))) mx_laplace ((10 * (I mx_column (I mx_piece (I mx_now (27 + v7).toNatClampNeg).toNatClampNeg).toNatClampNeg)) + (I mx_column (I mx_piece (I mx_now (3 + v7).toNatClampNeg).toNatClampNeg).toNatClampNeg)).toNatClampNeg) + (-1))), ab_RR, n, nc, ns) res
            refine ab_drop 8 ?_
            refine ab_drop 9 ?_
            exact h
      · have h := h.2 c11
        refine ab_goto (tgt := 362) d_M_waysAt_279 (by decide) ?_
        refine ab_drop 8 ?_
        refine ab_drop 9 ?_
        exact h
    · have h := h.2 c6
      refine ab_callS (me2 := mt_M_has) (as := [.int v3, .int v7]) (st := []) (rv := (some (.int 0))) (M2 := (I, L, ab_RR, n, nc, ns)) d_M_waysAt_230 ce_M_has ⟨v_1648, Or.inl v_1647⟩ (Nat.le_of_ble_eq_true rfl) (cx_M_has_0 v3 v7 hT c6) (Nat.le_refl _) (Nat.le_refl _) hc hs (fun j h9 => by cases h9) (fun _ _ => rfl) ?_
      show ab_E w (d + 1) mt_M_waysAt 233 [.ref mx, .int v1, .int v2, .int v3, .int v4, .int v5, .int v6, .int v7, .null, .null] [.int 0] (I, L, ab_RR, n, nc, ns) res
      refine ab_if_ne (tgt := 239) d_M_waysAt_233 (by decide) (fun c9 => absurd (show (0 : Int32) = 0 from by decide) c9) (fun _ => ?_)
      refine ab_goto (tgt := 362) d_M_waysAt_236 (by decide) ?_
      exact h
theorem r_M_waysAt_362 {w : ab_Wd} {d n nc ns : Nat} {I : Nat → Nat → Int32} {L : Nat → Nat → Int64} {res : ab_Re} (hT : w.1.stackTraces = false) (v1 : Int32) (v2 : Int32) (v3 : Int32) (v4 : Int32) (v5 : Int32) (v6 : Int32) (v7 : Int32) (hc : nc ≤ res.2.2.2.2.2.1) (hs : ns ≤ res.2.2.2.2.2.2)
    (h : ab_E w (d + 1) mt_M_waysAt 218 [.ref mx, .int v1, .int v2, .int v3, .int v4, .int v5, .int v6, .int (v7 + 1), .null, .null] [] (I, L, ab_RR, n, nc, ns) res) : ab_E w (d + 1) mt_M_waysAt 362 [.ref mx, .int v1, .int v2, .int v3, .int v4, .int v5, .int v6, .int v7, .null, .null] [] (I, L, ab_RR, n, nc, ns) res := by
  refine ab_iinc (i := 7) (v := (v7 + 1)) d_M_waysAt_362 rfl rfl (by decide) (Or.inr rfl) ?_
  refine ab_goto (tgt := 218) d_M_waysAt_365 (by decide) ?_
  exact h
theorem r_M_alike_0 {w : ab_Wd} {d n nc ns : Nat} {I : Nat → Nat → Int32} {L : Nat → Nat → Int64} {res : ab_Re} (hT : w.1.stackTraces = false)  (hc : nc ≤ res.2.2.2.2.2.1) (hs : ns ≤ res.2.2.2.2.2.2)
    (h : ab_E w (d + 1) mt_M_alike 9 [.ref mx, .long 1, .null, .int 1, .null, .null] [] ((ab_up I mx 1 0), L, ab_RR, n, nc, ns) res) : ab_E w (d + 1) mt_M_alike 0 [.ref mx, .null, .null, .null, .null, .null] [] (I, L, ab_RR, n, nc, ns) res := by
  refine ab_aload_n (i := 0) d_M_alike_0 rfl rfl ?_
  refine ab_iconst (v := 0) d_M_alike_1 rfl ?_
  refine ab_putI (ci := 11) (k := 1) d_M_alike_2 v_1369 rfl (by decide) (by decide) rfl (Or.inl rfl) rfl rfl ?_
  refine ab_lconst (v := 1) d_M_alike_5 rfl ?_
  refine ab_lstore_n (i := 1) d_M_alike_6 rfl (by decide) (Or.inr rfl) ?_
  refine ab_iconst (v := 1) d_M_alike_7 rfl ?_
  refine ab_istore_n (i := 3) d_M_alike_8 rfl (by decide) (Or.inr rfl) ?_
  exact h
theorem r_M_alike_9 {w : ab_Wd} {d n nc ns : Nat} {I : Nat → Nat → Int32} {L : Nat → Nat → Int64} {res : ab_Re} (hT : w.1.stackTraces = false) (v1 : Int64) (v3 : Int32) (hc : nc ≤ res.2.2.2.2.2.1) (hs : ns ≤ res.2.2.2.2.2.2)
    (h : ((999 < v3 → (res = (.inl (some (.long v1)), (I, L, ab_RR, n, nc, ns)))) ∧ (¬ 999 < v3 → (ab_E w (d + 1) mt_M_alike 22 [.ref mx, .long v1, .null, .int v3, .int 0, .int 0] [] (I, L, ab_RR, n, nc, ns) res)))) : ab_E w (d + 1) mt_M_alike 9 [.ref mx, .long v1, .null, .int v3, .null, .null] [] (I, L, ab_RR, n, nc, ns) res := by
  refine ab_iload_n (i := 3) d_M_alike_9 rfl rfl ?_
  refine ab_sipush (v := 999) d_M_alike_10 rfl ?_
  refine ab_icmp_gt (tgt := 91) d_M_alike_13 (by decide) (fun c1 => ?_) (fun c1 => ?_)
  · have h := h.1 c1
    refine ab_lload_n (i := 1) d_M_alike_91 rfl rfl ?_
    exact ab_lret d_M_alike_92 rfl h
  · have h := h.2 c1
    refine ab_iconst (v := 0) d_M_alike_16 rfl ?_
    refine ab_istore (i := 4) d_M_alike_17 (by decide) (Or.inr rfl) ?_
    refine ab_iconst (v := 0) d_M_alike_19 rfl ?_
    refine ab_istore (i := 5) d_M_alike_20 (by decide) (Or.inr rfl) ?_
    exact h
theorem r_M_alike_22 {w : ab_Wd} {d n nc ns : Nat} {I : Nat → Nat → Int32} {L : Nat → Nat → Int64} {res : ab_Re} (hT : w.1.stackTraces = false) (v1 : Int64) (v3 : Int32) (v4 : Int32) (v5 : Int32) (hc : nc ≤ res.2.2.2.2.2.1) (hs : ns ≤ res.2.2.2.2.2.2)
    (h : (((I mx_now 0) ≤ v5 → ((v4 = 0 → (ab_E w (d + 1) mt_M_alike 9 [.ref mx, .long (v1 * 1), .null, .int (v3 + 1), .null, .null] [] (I, L, ab_RR, n, nc, ns) res)) ∧ (¬ v4 = 0 → (∃ (r4 : Int64) (I5 : Nat → Nat → Int32) (L6 : Nat → Nat → Int64), ab_C w d mt_M_waysAt [.ref mx, .int v3] (I, L, ab_RR, n, nc, ns) (.inl (some (.long r4)), (I5, L6, ab_RR, n, nc, ns)) ∧ ab_E w (d + 1) mt_M_alike 9 [.ref mx, .long (v1 * r4), .null, .int (v3 + 1), .null, .null] [] (I5, L6, ab_RR, n, nc, ns) res)))) ∧ (¬ (I mx_now 0) ≤ v5 → ((¬ v4 = 0 → (ab_E w (d + 1) mt_M_alike 22 [.ref mx, .long v1, .null, .int v3, .int 1, .int (v5 + 1)] [] (I, L, ab_RR, n, nc, ns) res)) ∧ (v4 = 0 → (((((I mx_now 1) >>> (v5 &&& 31)) &&& 1) = 1 → ((vp_in (51 + v5) 399) ∧ ((¬ (I mx_now (51 + v5).toNatClampNeg) = v3 → (ab_E w (d + 1) mt_M_alike 22 [.ref mx, .long v1, .null, .int v3, .int 0, .int (v5 + 1)] [] (I, L, ab_RR, n, nc, ns) res)) ∧ ((I mx_now (51 + v5).toNatClampNeg) = v3 → (ab_E w (d + 1) mt_M_alike 22 [.ref mx, .long v1, .null, .int v3, .int 1, .int (v5 + 1)] [] (I, L, ab_RR, n, nc, ns) res))))) ∧ (¬ (((I mx_now 1) >>> (v5 &&& 31)) &&& 1) = 1 → (ab_E w (d + 1) mt_M_alike 22 [.ref mx, .long v1, .null, .int v3, .int 0, .int (v5 + 1)] [] (I, L, ab_RR, n, nc, ns) res)))))))) : ab_E w (d + 1) mt_M_alike 22 [.ref mx, .long v1, .null, .int v3, .int v4, .int v5] [] (I, L, ab_RR, n, nc, ns) res := by
  refine ab_iload (i := 5) d_M_alike_22 rfl ?_
  refine ab_aload_n (i := 0) d_M_alike_24 rfl rfl ?_
  refine ab_callV (me2 := mt_M_many) (b := mx) (as := []) (st := [.int v5]) (rv := (some (.int (I mx_now 0)))) (M2 := (I, L, ab_RR, n, nc, ns)) d_M_alike_25 ce_M_many v_1635 v_1637 v_79 (by decide) rfl (Nat.le_of_ble_eq_true rfl) (cx_M_many_0  hT (show (vp_in 0 399) from by unfold vp_in; decide)) (Nat.le_refl _) (Nat.le_refl _) hc hs (fun j h9 => by cases h9) (fun _ _ => rfl) ?_
  show ab_E w (d + 1) mt_M_alike 28 [.ref mx, .long v1, .null, .int v3, .int v4, .int v5] [.int (I mx_now 0), .int v5] (I, L, ab_RR, n, nc, ns) res
  refine ab_icmp_ge (tgt := 68) d_M_alike_28 (by decide) (fun c2 => ?_) (fun c2 => ?_)
  · have h := h.1 c2
    refine ab_lload_n (i := 1) d_M_alike_68 rfl rfl ?_
    refine ab_iload (i := 4) d_M_alike_69 rfl ?_
    refine ab_if_eq (tgt := 82) d_M_alike_71 (by decide) (fun c3 => ?_) (fun c3 => ?_)
    · have h := h.1 c3
      refine ab_lconst (v := 1) d_M_alike_82 rfl ?_
      refine ab_lmul d_M_alike_83 ?_
      refine ab_lstore_n (i := 1) d_M_alike_84 rfl (by decide) (Or.inr rfl) ?_
      refine ab_iinc (i := 3) (v := (v3 + 1)) d_M_alike_85 rfl rfl (by decide) (Or.inr rfl) ?_
      refine ab_goto (tgt := 9) d_M_alike_88 (by decide) ?_
      refine ab_drop 4 ?_
      refine ab_drop 5 ?_
      exact h
    · have h := h.2 c3
      refine ab_aload_n (i := 0) d_M_alike_74 rfl rfl ?_
      refine ab_iload_n (i := 3) d_M_alike_75 rfl rfl ?_
      obtain ⟨r4, I5, L6, hC, h⟩ := h
      refine ab_callV (me2 := mt_M_waysAt) (b := mx) (as := [.int v3]) (st := [.long v1]) (rv := (some (.long r4))) (M2 := (I5, L6, ab_RR, n, nc, ns)) d_M_alike_76 ce_M_waysAt v_1827 v_1829 v_116 (by decide) rfl (Nat.le_of_ble_eq_true rfl) hC (Nat.le_refl _) (Nat.le_refl _) hc hs (fun j h9 => by cases h9) (fun _ _ => rfl) ?_
      show ab_E w (d + 1) mt_M_alike 79 [.ref mx, .long v1, .null, .int v3, .int v4, .int v5] [.long r4, .long v1] (I5, L6, ab_RR, n, nc, ns) res
      refine ab_goto (tgt := 83) d_M_alike_79 (by decide) ?_
      refine ab_lmul d_M_alike_83 ?_
      refine ab_lstore_n (i := 1) d_M_alike_84 rfl (by decide) (Or.inr rfl) ?_
      refine ab_iinc (i := 3) (v := (v3 + 1)) d_M_alike_85 rfl rfl (by decide) (Or.inr rfl) ?_
      refine ab_goto (tgt := 9) d_M_alike_88 (by decide) ?_
      refine ab_drop 4 ?_
      refine ab_drop 5 ?_
      exact h
  · have h := h.2 c2
    refine ab_iload (i := 4) d_M_alike_31 rfl ?_
    refine ab_if_ne (tgt := 55) d_M_alike_33 (by decide) (fun c7 => ?_) (fun c7 => ?_)
    · have h := h.1 c7
      refine ab_iconst (v := 1) d_M_alike_55 rfl ?_
      refine ab_goto (tgt := 60) d_M_alike_56 (by decide) ?_
      refine ab_istore (i := 4) d_M_alike_60 (by decide) (Or.inr rfl) ?_
      refine ab_iinc (i := 5) (v := (v5 + 1)) d_M_alike_62 rfl rfl (by decide) (Or.inr rfl) ?_
      refine ab_goto (tgt := 22) d_M_alike_65 (by decide) ?_
      exact h
    · have h := h.2 c7
      refine ab_aload_n (i := 0) d_M_alike_36 rfl rfl ?_
      refine ab_iload (i := 5) d_M_alike_37 rfl ?_
      by_cases c9 : (((I mx_now 1) >>> (v5 &&& 31)) &&& 1) = 1
      · have h := h.1 c9
        refine ab_callV (me2 := mt_M_isSound) (b := mx) (as := [.int v5]) (st := []) (rv := (some (.int 1))) (M2 := (I, L, ab_RR, n, nc, ns)) d_M_alike_39 ce_M_isSound v_1679 v_1681 v_89 (by decide) rfl (Nat.le_of_ble_eq_true rfl) (cx_M_isSound_1 v5 hT (show (vp_in 1 399) from by unfold vp_in; decide) c9) (Nat.le_refl _) (Nat.le_refl _) hc hs (fun j h9 => by cases h9) (fun _ _ => rfl) ?_
        show ab_E w (d + 1) mt_M_alike 42 [.ref mx, .long v1, .null, .int v3, .int v4, .int v5] [.int 1] (I, L, ab_RR, n, nc, ns) res
        refine ab_if_eq (tgt := 59) d_M_alike_42 (by decide) (fun c9 => absurd c9 (show ¬ (1 : Int32) = 0 from by decide)) (fun _ => ?_)
        refine ab_aload_n (i := 0) d_M_alike_45 rfl rfl ?_
        refine ab_iload (i := 5) d_M_alike_46 rfl ?_
        have g11 := h.1; have h := h.2
        refine ab_callV (me2 := mt_M_priceOf) (b := mx) (as := [.int v5]) (st := []) (rv := (some (.int (I mx_now (51 + v5).toNatClampNeg)))) (M2 := (I, L, ab_RR, n, nc, ns)) d_M_alike_48 ce_M_priceOf v_1654 v_1656 v_83 (by decide) rfl (Nat.le_of_ble_eq_true rfl) (cx_M_priceOf_0 v5 hT g11) (Nat.le_refl _) (Nat.le_refl _) hc hs (fun j h9 => by cases h9) (fun _ _ => rfl) ?_
        show ab_E w (d + 1) mt_M_alike 51 [.ref mx, .long v1, .null, .int v3, .int v4, .int v5] [.int (I mx_now (51 + v5).toNatClampNeg)] (I, L, ab_RR, n, nc, ns) res
        refine ab_iload_n (i := 3) d_M_alike_51 rfl rfl ?_
        refine ab_icmp_ne (tgt := 59) d_M_alike_52 (by decide) (fun c12 => ?_) (fun c12 => ?_)
        · have h := h.1 c12
          refine ab_iconst (v := 0) d_M_alike_59 rfl ?_
          refine ab_istore (i := 4) d_M_alike_60 (by decide) (Or.inr rfl) ?_
          refine ab_iinc (i := 5) (v := (v5 + 1)) d_M_alike_62 rfl rfl (by decide) (Or.inr rfl) ?_
          refine ab_goto (tgt := 22) d_M_alike_65 (by decide) ?_
          exact h
        · have h := h.2 c12
          refine ab_iconst (v := 1) d_M_alike_55 rfl ?_
          refine ab_goto (tgt := 60) d_M_alike_56 (by decide) ?_
          refine ab_istore (i := 4) d_M_alike_60 (by decide) (Or.inr rfl) ?_
          refine ab_iinc (i := 5) (v := (v5 + 1)) d_M_alike_62 rfl rfl (by decide) (Or.inr rfl) ?_
          refine ab_goto (tgt := 22) d_M_alike_65 (by decide) ?_
          exact h
      · have h := h.2 c9
        refine ab_callV (me2 := mt_M_isSound) (b := mx) (as := [.int v5]) (st := []) (rv := (some (.int 0))) (M2 := (I, L, ab_RR, n, nc, ns)) d_M_alike_39 ce_M_isSound v_1679 v_1681 v_89 (by decide) rfl (Nat.le_of_ble_eq_true rfl) (cx_M_isSound_0 v5 hT (show (vp_in 1 399) from by unfold vp_in; decide) c9) (Nat.le_refl _) (Nat.le_refl _) hc hs (fun j h9 => by cases h9) (fun _ _ => rfl) ?_
        show ab_E w (d + 1) mt_M_alike 42 [.ref mx, .long v1, .null, .int v3, .int v4, .int v5] [.int 0] (I, L, ab_RR, n, nc, ns) res
        refine ab_if_eq (tgt := 59) d_M_alike_42 (by decide) (fun _ => ?_) (fun c9 => absurd (show (0 : Int32) = 0 from by decide) c9)
        refine ab_iconst (v := 0) d_M_alike_59 rfl ?_
        refine ab_istore (i := 4) d_M_alike_60 (by decide) (Or.inr rfl) ?_
        refine ab_iinc (i := 5) (v := (v5 + 1)) d_M_alike_62 rfl rfl (by decide) (Or.inr rfl) ?_
        refine ab_goto (tgt := 22) d_M_alike_65 (by decide) ?_
        exact h
theorem cx_M_tellByte_0 {w : ab_Wd} {d n nc ns : Nat} {I : Nat → Nat → Int32} {L : Nat → Nat → Int64} (v1 : Int32) (hT : w.1.stackTraces = false) (e1 : ¬ (I mx 38) = (I mx 37)) : ab_C w d mt_M_tellByte [.ref mx, .int v1] (I, L, ab_RR, n, nc, ns) (.inl none, ((ab_up I mx 38 ((I mx 38) + 1)), L, ab_RR, n, nc, ns)) := by
  refine ab_C_of (by decide) rfl (Nat.le_of_ble_eq_true rfl) hT ?_
  have hc := Nat.le_refl nc
  have hs := Nat.le_refl ns
  refine ab_aload_n (i := 0) d_M_tellByte_0 rfl rfl ?_
  refine ab_getI (ci := 11) (k := 38) d_M_tellByte_1 v_1406 rfl (by decide) (by decide) rfl ?_
  refine ab_aload_n (i := 0) d_M_tellByte_4 rfl rfl ?_
  refine ab_getI (ci := 11) (k := 37) d_M_tellByte_5 v_1405 rfl (by decide) (by decide) rfl ?_
  refine ab_icmp_ne (tgt := 16) d_M_tellByte_8 (by decide) (fun _ => ?_) (fun c9 => absurd c9 e1)
  refine ab_aload_n (i := 0) d_M_tellByte_16 rfl rfl ?_
  refine ab_dupr d_M_tellByte_17 ?_
  refine ab_getI (ci := 11) (k := 38) d_M_tellByte_18 v_1406 rfl (by decide) (by decide) rfl ?_
  refine ab_iconst (v := 1) d_M_tellByte_21 rfl ?_
  refine ab_iadd d_M_tellByte_22 ?_
  refine ab_putI (ci := 11) (k := 38) d_M_tellByte_23 v_1406 rfl (by decide) (by decide) rfl (Or.inl rfl) rfl rfl ?_
  exact ab_vret d_M_tellByte_26 rfl rfl
theorem cx_M_tellByte_1 {w : ab_Wd} {d n nc ns : Nat} {I : Nat → Nat → Int32} {L : Nat → Nat → Int64} (v1 : Int32) (hT : w.1.stackTraces = false) (e1 : (I mx 38) = (I mx 37)) : ab_C w d mt_M_tellByte [.ref mx, .int v1] (I, L, ab_RR, n, nc, ns) (.inl none, ((ab_up (ab_up I mx 39 v1) mx 38 ((I mx 38) + 1)), L, ab_RR, n, nc, ns)) := by
  refine ab_C_of (by decide) rfl (Nat.le_of_ble_eq_true rfl) hT ?_
  have hc := Nat.le_refl nc
  have hs := Nat.le_refl ns
  refine ab_aload_n (i := 0) d_M_tellByte_0 rfl rfl ?_
  refine ab_getI (ci := 11) (k := 38) d_M_tellByte_1 v_1406 rfl (by decide) (by decide) rfl ?_
  refine ab_aload_n (i := 0) d_M_tellByte_4 rfl rfl ?_
  refine ab_getI (ci := 11) (k := 37) d_M_tellByte_5 v_1405 rfl (by decide) (by decide) rfl ?_
  refine ab_icmp_ne (tgt := 16) d_M_tellByte_8 (by decide) (fun c9 => absurd e1 c9) (fun _ => ?_)
  refine ab_aload_n (i := 0) d_M_tellByte_11 rfl rfl ?_
  refine ab_iload_n (i := 1) d_M_tellByte_12 rfl rfl ?_
  refine ab_putI (ci := 11) (k := 39) d_M_tellByte_13 v_1407 rfl (by decide) (by decide) rfl (Or.inl rfl) rfl rfl ?_
  refine ab_aload_n (i := 0) d_M_tellByte_16 rfl rfl ?_
  refine ab_dupr d_M_tellByte_17 ?_
  refine ab_getI (ci := 11) (k := 38) d_M_tellByte_18 v_1406 rfl (by decide) (by decide) rfl ?_
  refine ab_iconst (v := 1) d_M_tellByte_21 rfl ?_
  refine ab_iadd d_M_tellByte_22 ?_
  refine ab_putI (ci := 11) (k := 38) d_M_tellByte_23 v_1406 rfl (by decide) (by decide) rfl (Or.inl rfl) rfl rfl ?_
  exact ab_vret d_M_tellByte_26 rfl rfl
