theorem r_K_ringsWith_0 {w : ab_Wd} {d n nc ns : Nat} {I : Nat → Nat → Int32} {L : Nat → Nat → Int64} {res : ab_Re} (hT : w.1.stackTraces = false) (v1 : Int32) (hc : nc ≤ res.2.2.2.2.2.1) (hs : ns ≤ res.2.2.2.2.2.2)
    (h : (((((I kx_now_cables 2) >>> (v1 &&& 31)) &&& 1) = 1 → (((((I kx_forest 2) >>> (v1 &&& 31)) &&& 1) = 1 → (∃ (r4 : Int32), ab_C w (d + 1) mt_K_cutOf [.ref kx, .int v1] (I, L, ab_RR, n, nc, ns) (.inl (some (.int r4)), (I, L, ab_RR, n, nc, ns)) ∧ ab_E w (d + 2) mt_K_ringsWith 23 [.ref kx, .int v1, .int r4, .int 0, .int 0] [] (I, L, ab_RR, n, nc, ns) res)) ∧ (¬ (((I kx_forest 2) >>> (v1 &&& 31)) &&& 1) = 1 → (res = (.inl (some (.int ((1 : Int32) <<< (v1 &&& 31)))), (I, L, ab_RR, n, nc, ns)))))) ∧ (¬ (((I kx_now_cables 2) >>> (v1 &&& 31)) &&& 1) = 1 → (∃ (r5 : Int32), ab_C w (d + 1) mt_K_cutOf [.ref kx, .int v1] (I, L, ab_RR, n, nc, ns) (.inl (some (.int r5)), (I, L, ab_RR, n, nc, ns)) ∧ ab_E w (d + 2) mt_K_ringsWith 23 [.ref kx, .int v1, .int r5, .int 0, .int 0] [] (I, L, ab_RR, n, nc, ns) res)))) : ab_E w (d + 2) mt_K_ringsWith 0 [.ref kx, .int v1, .null, .null, .null] [] (I, L, ab_RR, n, nc, ns) res := by
  refine ab_aload_n (i := 0) d_K_ringsWith_0 rfl rfl ?_
  refine ab_iload_n (i := 1) d_K_ringsWith_1 rfl rfl ?_
  by_cases c2 : (((I kx_now_cables 2) >>> (v1 &&& 31)) &&& 1) = 1
  · have h := h.1 c2
    by_cases c3 : (((I kx_forest 2) >>> (v1 &&& 31)) &&& 1) = 1
    · have h := h.1 c3
      refine ab_callV (me2 := mt_K_isOutside) (b := kx) (as := [.int v1]) (st := []) (rv := (some (.int 0))) (M2 := (I, L, ab_RR, n, nc, ns)) d_K_ringsWith_2 ce_K_isOutside v_940 v_942 v_29 (by decide) rfl (Nat.le_of_ble_eq_true rfl) (cx_K_isOutside_2 v1 hT c2 (show ¬ (1 : Int32) = 0 from by decide) c3 (show ¬ (1 : Int32) = 0 from by decide)) (Nat.le_refl _) (Nat.le_refl _) hc hs (fun j h9 => by cases h9) (fun _ _ => rfl) ?_
      show ab_E w (d + 2) mt_K_ringsWith 5 [.ref kx, .int v1, .null, .null, .null] [.int 0] (I, L, ab_RR, n, nc, ns) res
      refine ab_if_eq (tgt := 12) d_K_ringsWith_5 (by decide) (fun _ => ?_) (fun c9 => absurd (show (0 : Int32) = 0 from by decide) c9)
      refine ab_aload_n (i := 0) d_K_ringsWith_12 rfl rfl ?_
      refine ab_iload_n (i := 1) d_K_ringsWith_13 rfl rfl ?_
      obtain ⟨r4, hC, h⟩ := h
      refine ab_callV (me2 := mt_K_cutOf) (b := kx) (as := [.int v1]) (st := []) (rv := (some (.int r4))) (M2 := (I, L, ab_RR, n, nc, ns)) d_K_ringsWith_14 ce_K_cutOf v_996 v_998 v_37 (by decide) rfl (Nat.le_of_ble_eq_true rfl) hC (Nat.le_refl _) (Nat.le_refl _) hc hs (fun j h9 => by cases h9) (fun _ _ => rfl) ?_
      show ab_E w (d + 2) mt_K_ringsWith 17 [.ref kx, .int v1, .null, .null, .null] [.int r4] (I, L, ab_RR, n, nc, ns) res
      refine ab_istore_n (i := 2) d_K_ringsWith_17 rfl (by decide) (Or.inr rfl) ?_
      refine ab_iconst (v := 0) d_K_ringsWith_18 rfl ?_
      refine ab_istore_n (i := 3) d_K_ringsWith_19 rfl (by decide) (Or.inr rfl) ?_
      refine ab_iconst (v := 0) d_K_ringsWith_20 rfl ?_
      refine ab_istore (i := 4) d_K_ringsWith_21 (by decide) (Or.inr rfl) ?_
      exact h
    · have h := h.2 c3
      refine ab_callV (me2 := mt_K_isOutside) (b := kx) (as := [.int v1]) (st := []) (rv := (some (.int 1))) (M2 := (I, L, ab_RR, n, nc, ns)) d_K_ringsWith_2 ce_K_isOutside v_940 v_942 v_29 (by decide) rfl (Nat.le_of_ble_eq_true rfl) (cx_K_isOutside_1 v1 hT c2 (show ¬ (1 : Int32) = 0 from by decide) c3 (show (0 : Int32) = 0 from by decide)) (Nat.le_refl _) (Nat.le_refl _) hc hs (fun j h9 => by cases h9) (fun _ _ => rfl) ?_
      show ab_E w (d + 2) mt_K_ringsWith 5 [.ref kx, .int v1, .null, .null, .null] [.int 1] (I, L, ab_RR, n, nc, ns) res
      refine ab_if_eq (tgt := 12) d_K_ringsWith_5 (by decide) (fun c9 => absurd c9 (show ¬ (1 : Int32) = 0 from by decide)) (fun _ => ?_)
      refine ab_iconst (v := 1) d_K_ringsWith_8 rfl ?_
      refine ab_iload_n (i := 1) d_K_ringsWith_9 rfl rfl ?_
      refine ab_ishl d_K_ringsWith_10 ?_
      exact ab_iret (ty := .int) d_K_ringsWith_11 rfl rfl h
  · have h := h.2 c2
    refine ab_callV (me2 := mt_K_isOutside) (b := kx) (as := [.int v1]) (st := []) (rv := (some (.int 0))) (M2 := (I, L, ab_RR, n, nc, ns)) d_K_ringsWith_2 ce_K_isOutside v_940 v_942 v_29 (by decide) rfl (Nat.le_of_ble_eq_true rfl) (cx_K_isOutside_0 v1 hT c2 (show (0 : Int32) = 0 from by decide)) (Nat.le_refl _) (Nat.le_refl _) hc hs (fun j h9 => by cases h9) (fun _ _ => rfl) ?_
    show ab_E w (d + 2) mt_K_ringsWith 5 [.ref kx, .int v1, .null, .null, .null] [.int 0] (I, L, ab_RR, n, nc, ns) res
    refine ab_if_eq (tgt := 12) d_K_ringsWith_5 (by decide) (fun _ => ?_) (fun c9 => absurd (show (0 : Int32) = 0 from by decide) c9)
    refine ab_aload_n (i := 0) d_K_ringsWith_12 rfl rfl ?_
    refine ab_iload_n (i := 1) d_K_ringsWith_13 rfl rfl ?_
    obtain ⟨r5, hC, h⟩ := h
    refine ab_callV (me2 := mt_K_cutOf) (b := kx) (as := [.int v1]) (st := []) (rv := (some (.int r5))) (M2 := (I, L, ab_RR, n, nc, ns)) d_K_ringsWith_14 ce_K_cutOf v_996 v_998 v_37 (by decide) rfl (Nat.le_of_ble_eq_true rfl) hC (Nat.le_refl _) (Nat.le_refl _) hc hs (fun j h9 => by cases h9) (fun _ _ => rfl) ?_
    show ab_E w (d + 2) mt_K_ringsWith 17 [.ref kx, .int v1, .null, .null, .null] [.int r5] (I, L, ab_RR, n, nc, ns) res
    refine ab_istore_n (i := 2) d_K_ringsWith_17 rfl (by decide) (Or.inr rfl) ?_
    refine ab_iconst (v := 0) d_K_ringsWith_18 rfl ?_
    refine ab_istore_n (i := 3) d_K_ringsWith_19 rfl (by decide) (Or.inr rfl) ?_
    refine ab_iconst (v := 0) d_K_ringsWith_20 rfl ?_
    refine ab_istore (i := 4) d_K_ringsWith_21 (by decide) (Or.inr rfl) ?_
    exact h
theorem r_K_ringsWith_23 {w : ab_Wd} {d n nc ns : Nat} {I : Nat → Nat → Int32} {L : Nat → Nat → Int64} {res : ab_Re} (hT : w.1.stackTraces = false) (v1 : Int32) (v2 : Int32) (v3 : Int32) (v4 : Int32) (hc : nc ≤ res.2.2.2.2.2.1) (hs : ns ≤ res.2.2.2.2.2.2)
    (h : (((I kx_now_cables 1) ≤ v4 → (res = (.inl (some (.int v3)), (I, L, ab_RR, n, nc, ns)))) ∧ (¬ (I kx_now_cables 1) ≤ v4 → (((((I kx_now_cables 2) >>> (v4 &&& 31)) &&& 1) = 1 → (((((I kx_forest 2) >>> (v4 &&& 31)) &&& 1) = 1 → (ab_E w (d + 2) mt_K_ringsWith 23 [.ref kx, .int v1, .int v2, .int v3, .int (v4 + 1)] [] (I, L, ab_RR, n, nc, ns) res)) ∧ (¬ (((I kx_forest 2) >>> (v4 &&& 31)) &&& 1) = 1 → ((vp_in v4 24) ∧ ((((v2 >>> ((I kx_now_cables_first v4.toNatClampNeg) &&& 31)) &&& 1) = ((v2 >>> ((I kx_now_cables_second v4.toNatClampNeg) &&& 31)) &&& 1) → (ab_E w (d + 2) mt_K_ringsWith 23 [.ref kx, .int v1, .int v2, .int v3, .int (v4 + 1)] [] (I, L, ab_RR, n, nc, ns) res)) ∧ (¬ ((v2 >>> ((I kx_now_cables_first v4.toNatClampNeg) &&& 31)) &&& 1) = ((v2 >>> ((I kx_now_cables_second v4.toNatClampNeg) &&& 31)) &&& 1) → (ab_E w (d + 2) mt_K_ringsWith 23 [.ref kx, .int v1, .int v2, .int (v3 ||| ((1 : Int32) <<< (v4 &&& 31))), .int (v4 + 1)] [] (I, L, ab_RR, n, nc, ns) res))))))) ∧ (¬ (((I kx_now_cables 2) >>> (v4 &&& 31)) &&& 1) = 1 → (ab_E w (d + 2) mt_K_ringsWith 23 [.ref kx, .int v1, .int v2, .int v3, .int (v4 + 1)] [] (I, L, ab_RR, n, nc, ns) res)))))) : ab_E w (d + 2) mt_K_ringsWith 23 [.ref kx, .int v1, .int v2, .int v3, .int v4] [] (I, L, ab_RR, n, nc, ns) res := by
  refine ab_iload (i := 4) d_K_ringsWith_23 rfl ?_
  refine ab_aload_n (i := 0) d_K_ringsWith_25 rfl rfl ?_
  refine ab_getR (ci := 10) (k := 3) (j := kx_now) d_K_ringsWith_26 v_475 rfl (by decide) (by decide) rfl r_kx_3 ?_
  refine ab_getR (ci := 6) (k := 0) (j := kx_now_cables) d_K_ringsWith_29 v_294 rfl (by decide) (by decide) rfl r_kx_now_0 ?_
  refine ab_getI (ci := 1) (k := 1) d_K_ringsWith_32 v_199 rfl (by decide) (by decide) rfl ?_
  refine ab_icmp_ge (tgt := 76) d_K_ringsWith_35 (by decide) (fun c1 => ?_) (fun c1 => ?_)
  · have h := h.1 c1
    refine ab_iload_n (i := 3) d_K_ringsWith_76 rfl rfl ?_
    exact ab_iret (ty := .int) d_K_ringsWith_77 rfl rfl h
  · have h := h.2 c1
    refine ab_aload_n (i := 0) d_K_ringsWith_38 rfl rfl ?_
    refine ab_iload (i := 4) d_K_ringsWith_39 rfl ?_
    by_cases c3 : (((I kx_now_cables 2) >>> (v4 &&& 31)) &&& 1) = 1
    · have h := h.1 c3
      by_cases c4 : (((I kx_forest 2) >>> (v4 &&& 31)) &&& 1) = 1
      · have h := h.1 c4
        refine ab_callV (me2 := mt_K_isOutside) (b := kx) (as := [.int v4]) (st := []) (rv := (some (.int 0))) (M2 := (I, L, ab_RR, n, nc, ns)) d_K_ringsWith_41 ce_K_isOutside v_940 v_942 v_29 (by decide) rfl (Nat.le_of_ble_eq_true rfl) (cx_K_isOutside_2 v4 hT c3 (show ¬ (1 : Int32) = 0 from by decide) c4 (show ¬ (1 : Int32) = 0 from by decide)) (Nat.le_refl _) (Nat.le_refl _) hc hs (fun j h9 => by cases h9) (fun _ _ => rfl) ?_
        show ab_E w (d + 2) mt_K_ringsWith 44 [.ref kx, .int v1, .int v2, .int v3, .int v4] [.int 0] (I, L, ab_RR, n, nc, ns) res
        refine ab_if_eq (tgt := 70) d_K_ringsWith_44 (by decide) (fun _ => ?_) (fun c9 => absurd (show (0 : Int32) = 0 from by decide) c9)
        refine ab_iinc (i := 4) (v := (v4 + 1)) d_K_ringsWith_70 rfl rfl (by decide) (Or.inr rfl) ?_
        refine ab_goto (tgt := 23) d_K_ringsWith_73 (by decide) ?_
        exact h
      · have h := h.2 c4
        refine ab_callV (me2 := mt_K_isOutside) (b := kx) (as := [.int v4]) (st := []) (rv := (some (.int 1))) (M2 := (I, L, ab_RR, n, nc, ns)) d_K_ringsWith_41 ce_K_isOutside v_940 v_942 v_29 (by decide) rfl (Nat.le_of_ble_eq_true rfl) (cx_K_isOutside_1 v4 hT c3 (show ¬ (1 : Int32) = 0 from by decide) c4 (show (0 : Int32) = 0 from by decide)) (Nat.le_refl _) (Nat.le_refl _) hc hs (fun j h9 => by cases h9) (fun _ _ => rfl) ?_
        show ab_E w (d + 2) mt_K_ringsWith 44 [.ref kx, .int v1, .int v2, .int v3, .int v4] [.int 1] (I, L, ab_RR, n, nc, ns) res
        refine ab_if_eq (tgt := 70) d_K_ringsWith_44 (by decide) (fun c9 => absurd c9 (show ¬ (1 : Int32) = 0 from by decide)) (fun _ => ?_)
        refine ab_aload_n (i := 0) d_K_ringsWith_47 rfl rfl ?_
        refine ab_getR (ci := 10) (k := 3) (j := kx_now) d_K_ringsWith_48 v_475 rfl (by decide) (by decide) rfl r_kx_3 ?_
        refine ab_getR (ci := 6) (k := 0) (j := kx_now_cables) d_K_ringsWith_51 v_294 rfl (by decide) (by decide) rfl r_kx_now_0 ?_
        refine ab_iload (i := 4) d_K_ringsWith_54 rfl ?_
        refine ab_iload_n (i := 2) d_K_ringsWith_56 rfl rfl ?_
        have g6 := h.1; have h := h.2
        by_cases c7 : ((v2 >>> ((I kx_now_cables_first v4.toNatClampNeg) &&& 31)) &&& 1) = ((v2 >>> ((I kx_now_cables_second v4.toNatClampNeg) &&& 31)) &&& 1)
        · have h := h.1 c7
          refine ab_callV (me2 := mt_Cables_crosses) (b := kx_now_cables) (as := [.int v4, .int v2]) (st := []) (rv := (some (.int 0))) (M2 := (I, L, ab_RR, n, nc, ns)) d_K_ringsWith_57 ce_Cables_crosses v_1008 v_1009 v_1010 (by decide) rfl (Nat.le_of_ble_eq_true rfl) (cx_Cables_crosses_0 v4 v2 hT g6 g6 c7) (Nat.le_refl _) (Nat.le_refl _) hc hs (fun j h9 => by cases h9) (fun _ _ => rfl) ?_
          show ab_E w (d + 2) mt_K_ringsWith 60 [.ref kx, .int v1, .int v2, .int v3, .int v4] [.int 0] (I, L, ab_RR, n, nc, ns) res
          refine ab_if_eq (tgt := 70) d_K_ringsWith_60 (by decide) (fun _ => ?_) (fun c9 => absurd (show (0 : Int32) = 0 from by decide) c9)
          refine ab_iinc (i := 4) (v := (v4 + 1)) d_K_ringsWith_70 rfl rfl (by decide) (Or.inr rfl) ?_
          refine ab_goto (tgt := 23) d_K_ringsWith_73 (by decide) ?_
          exact h
        · have h := h.2 c7
          refine ab_callV (me2 := mt_Cables_crosses) (b := kx_now_cables) (as := [.int v4, .int v2]) (st := []) (rv := (some (.int 1))) (M2 := (I, L, ab_RR, n, nc, ns)) d_K_ringsWith_57 ce_Cables_crosses v_1008 v_1009 v_1010 (by decide) rfl (Nat.le_of_ble_eq_true rfl) (cx_Cables_crosses_1 v4 v2 hT g6 g6 c7) (Nat.le_refl _) (Nat.le_refl _) hc hs (fun j h9 => by cases h9) (fun _ _ => rfl) ?_
          show ab_E w (d + 2) mt_K_ringsWith 60 [.ref kx, .int v1, .int v2, .int v3, .int v4] [.int 1] (I, L, ab_RR, n, nc, ns) res
          refine ab_if_eq (tgt := 70) d_K_ringsWith_60 (by decide) (fun c9 => absurd c9 (show ¬ (1 : Int32) = 0 from by decide)) (fun _ => ?_)
          refine ab_iload_n (i := 3) d_K_ringsWith_63 rfl rfl ?_
          refine ab_iconst (v := 1) d_K_ringsWith_64 rfl ?_
          refine ab_iload (i := 4) d_K_ringsWith_65 rfl ?_
          refine ab_ishl d_K_ringsWith_67 ?_
          refine ab_ior d_K_ringsWith_68 ?_
          refine ab_istore_n (i := 3) d_K_ringsWith_69 rfl (by decide) (Or.inr rfl) ?_
          refine ab_iinc (i := 4) (v := (v4 + 1)) d_K_ringsWith_70 rfl rfl (by decide) (Or.inr rfl) ?_
          refine ab_goto (tgt := 23) d_K_ringsWith_73 (by decide) ?_
          exact h
    · have h := h.2 c3
      refine ab_callV (me2 := mt_K_isOutside) (b := kx) (as := [.int v4]) (st := []) (rv := (some (.int 0))) (M2 := (I, L, ab_RR, n, nc, ns)) d_K_ringsWith_41 ce_K_isOutside v_940 v_942 v_29 (by decide) rfl (Nat.le_of_ble_eq_true rfl) (cx_K_isOutside_0 v4 hT c3 (show (0 : Int32) = 0 from by decide)) (Nat.le_refl _) (Nat.le_refl _) hc hs (fun j h9 => by cases h9) (fun _ _ => rfl) ?_
      show ab_E w (d + 2) mt_K_ringsWith 44 [.ref kx, .int v1, .int v2, .int v3, .int v4] [.int 0] (I, L, ab_RR, n, nc, ns) res
      refine ab_if_eq (tgt := 70) d_K_ringsWith_44 (by decide) (fun _ => ?_) (fun c9 => absurd (show (0 : Int32) = 0 from by decide) c9)
      refine ab_iinc (i := 4) (v := (v4 + 1)) d_K_ringsWith_70 rfl rfl (by decide) (Or.inr rfl) ?_
      refine ab_goto (tgt := 23) d_K_ringsWith_73 (by decide) ?_
      exact h
theorem r_K_markRings_0 {w : ab_Wd} {d n nc ns : Nat} {I : Nat → Nat → Int32} {L : Nat → Nat → Int64} {res : ab_Re} (hT : w.1.stackTraces = false)  (hc : nc ≤ res.2.2.2.2.2.1) (hs : ns ≤ res.2.2.2.2.2.2)
    (h : ab_E w (d + 1) mt_K_markRings 2 [.ref kx, .int 0] [] (I, L, ab_RR, n, nc, ns) res) : ab_E w (d + 1) mt_K_markRings 0 [.ref kx, .null] [] (I, L, ab_RR, n, nc, ns) res := by
  refine ab_iconst (v := 0) d_K_markRings_0 rfl ?_
  refine ab_istore_n (i := 1) d_K_markRings_1 rfl (by decide) (Or.inr rfl) ?_
  exact h
theorem r_K_markRings_2 {w : ab_Wd} {d n nc ns : Nat} {I : Nat → Nat → Int32} {L : Nat → Nat → Int64} {res : ab_Re} (hT : w.1.stackTraces = false) (v1 : Int32) (hc : nc ≤ res.2.2.2.2.2.1) (hs : ns ≤ res.2.2.2.2.2.2)
    (h : (((I kx_now_cables 1) ≤ v1 → (res = (.inl none, (I, L, ab_RR, n, nc, ns)))) ∧ (¬ (I kx_now_cables 1) ≤ v1 → (∃ (r2 : Int32), ab_C w d mt_K_ringsWith [.ref kx, .int v1] (I, L, ab_RR, n, nc, ns) (.inl (some (.int r2)), (I, L, ab_RR, n, nc, ns)) ∧ (vp_in v1 24) ∧ ab_E w (d + 1) mt_K_markRings 2 [.ref kx, .int (v1 + 1)] [] ((ab_up I kx_rings v1.toNatClampNeg r2), L, ab_RR, n, nc, ns) res)))) : ab_E w (d + 1) mt_K_markRings 2 [.ref kx, .int v1] [] (I, L, ab_RR, n, nc, ns) res := by
  refine ab_iload_n (i := 1) d_K_markRings_2 rfl rfl ?_
  refine ab_aload_n (i := 0) d_K_markRings_3 rfl rfl ?_
  refine ab_getR (ci := 10) (k := 3) (j := kx_now) d_K_markRings_4 v_475 rfl (by decide) (by decide) rfl r_kx_3 ?_
  refine ab_getR (ci := 6) (k := 0) (j := kx_now_cables) d_K_markRings_7 v_294 rfl (by decide) (by decide) rfl r_kx_now_0 ?_
  refine ab_getI (ci := 1) (k := 1) d_K_markRings_10 v_199 rfl (by decide) (by decide) rfl ?_
  refine ab_icmp_ge (tgt := 33) d_K_markRings_13 (by decide) (fun c1 => ?_) (fun c1 => ?_)
  · have h := h.1 c1
    exact ab_vret d_K_markRings_33 rfl h
  · have h := h.2 c1
    refine ab_aload_n (i := 0) d_K_markRings_16 rfl rfl ?_
    refine ab_getR (ci := 10) (k := 10) (j := kx_rings) d_K_markRings_17 v_482 rfl (by decide) (by decide) rfl r_kx_10 ?_
    refine ab_iload_n (i := 1) d_K_markRings_20 rfl rfl ?_
    refine ab_aload_n (i := 0) d_K_markRings_21 rfl rfl ?_
    refine ab_iload_n (i := 1) d_K_markRings_22 rfl rfl ?_
    obtain ⟨r2, hC, h⟩ := h
    refine ab_callV (me2 := mt_K_ringsWith) (b := kx) (as := [.int v1]) (st := [.int v1, .ref kx_rings]) (rv := (some (.int r2))) (M2 := (I, L, ab_RR, n, nc, ns)) d_K_markRings_23 ce_K_ringsWith v_992 v_994 v_36 (by decide) rfl (Nat.le_of_ble_eq_true rfl) hC (Nat.le_refl _) (Nat.le_refl _) hc hs (fun j h9 => by cases h9) (fun _ _ => rfl) ?_
    show ab_E w (d + 1) mt_K_markRings 26 [.ref kx, .int v1] [.int r2, .int v1, .ref kx_rings] (I, L, ab_RR, n, nc, ns) res
    have g3 := h.1; have h := h.2
    refine ab_iast d_K_markRings_26 rfl rfl g3 ?_
    refine ab_iinc (i := 1) (v := (v1 + 1)) d_K_markRings_27 rfl rfl (by decide) (Or.inr rfl) ?_
    refine ab_goto (tgt := 2) d_K_markRings_30 (by decide) ?_
    exact h
theorem cx_K_isWeak_0 {w : ab_Wd} {d n nc ns : Nat} {I : Nat → Nat → Int32} {L : Nat → Nat → Int64} (v1 : Int32) (v2 : Int32) (hT : w.1.stackTraces = false) (e1 : (vp_in v1 24)) (e2 : (I kx_rings v1.toNatClampNeg) = 0) : ab_C w d mt_K_isWeak [.ref kx, .int v1, .int v2] (I, L, ab_RR, n, nc, ns) (.inl (some (.int 0)), (I, L, ab_RR, n, nc, ns)) := by
  refine ab_C_of (by decide) rfl (Nat.le_of_ble_eq_true rfl) hT ?_
  have hc := Nat.le_refl nc
  have hs := Nat.le_refl ns
  refine ab_aload_n (i := 0) d_K_isWeak_0 rfl rfl ?_
  refine ab_getR (ci := 10) (k := 10) (j := kx_rings) d_K_isWeak_1 v_482 rfl (by decide) (by decide) rfl r_kx_10 ?_
  refine ab_iload_n (i := 1) d_K_isWeak_4 rfl rfl ?_
  refine ab_iald d_K_isWeak_5 rfl rfl e1 ?_
  refine ab_if_eq (tgt := 28) d_K_isWeak_6 (by decide) (fun _ => ?_) (fun c9 => absurd e2 c9)
  refine ab_iconst (v := 0) d_K_isWeak_28 rfl ?_
  exact ab_iret (ty := .boolean) d_K_isWeak_29 rfl rfl rfl
theorem cx_K_isWeak_1 {w : ab_Wd} {d n nc ns : Nat} {I : Nat → Nat → Int32} {L : Nat → Nat → Int64} (v1 : Int32) (v2 : Int32) (hT : w.1.stackTraces = false) (e1 : (vp_in v1 24)) (e2 : ¬ (I kx_rings v1.toNatClampNeg) = 0) (e3 : (vp_in v1 24)) (e4 : (vp_in v2 24)) (e5 : ¬ (I kx_rings v1.toNatClampNeg) = (I kx_rings v2.toNatClampNeg)) : ab_C w d mt_K_isWeak [.ref kx, .int v1, .int v2] (I, L, ab_RR, n, nc, ns) (.inl (some (.int 0)), (I, L, ab_RR, n, nc, ns)) := by
  refine ab_C_of (by decide) rfl (Nat.le_of_ble_eq_true rfl) hT ?_
  have hc := Nat.le_refl nc
  have hs := Nat.le_refl ns
  refine ab_aload_n (i := 0) d_K_isWeak_0 rfl rfl ?_
  refine ab_getR (ci := 10) (k := 10) (j := kx_rings) d_K_isWeak_1 v_482 rfl (by decide) (by decide) rfl r_kx_10 ?_
  refine ab_iload_n (i := 1) d_K_isWeak_4 rfl rfl ?_
  refine ab_iald d_K_isWeak_5 rfl rfl e1 ?_
  refine ab_if_eq (tgt := 28) d_K_isWeak_6 (by decide) (fun c9 => absurd c9 e2) (fun _ => ?_)
  refine ab_aload_n (i := 0) d_K_isWeak_9 rfl rfl ?_
  refine ab_getR (ci := 10) (k := 10) (j := kx_rings) d_K_isWeak_10 v_482 rfl (by decide) (by decide) rfl r_kx_10 ?_
  refine ab_iload_n (i := 1) d_K_isWeak_13 rfl rfl ?_
  refine ab_iald d_K_isWeak_14 rfl rfl e3 ?_
  refine ab_aload_n (i := 0) d_K_isWeak_15 rfl rfl ?_
  refine ab_getR (ci := 10) (k := 10) (j := kx_rings) d_K_isWeak_16 v_482 rfl (by decide) (by decide) rfl r_kx_10 ?_
  refine ab_iload_n (i := 2) d_K_isWeak_19 rfl rfl ?_
  refine ab_iald d_K_isWeak_20 rfl rfl e4 ?_
  refine ab_icmp_ne (tgt := 28) d_K_isWeak_21 (by decide) (fun _ => ?_) (fun c9 => absurd c9 e5)
  refine ab_iconst (v := 0) d_K_isWeak_28 rfl ?_
  exact ab_iret (ty := .boolean) d_K_isWeak_29 rfl rfl rfl
theorem cx_K_isWeak_2 {w : ab_Wd} {d n nc ns : Nat} {I : Nat → Nat → Int32} {L : Nat → Nat → Int64} (v1 : Int32) (v2 : Int32) (hT : w.1.stackTraces = false) (e1 : (vp_in v1 24)) (e2 : ¬ (I kx_rings v1.toNatClampNeg) = 0) (e3 : (vp_in v1 24)) (e4 : (vp_in v2 24)) (e5 : (I kx_rings v1.toNatClampNeg) = (I kx_rings v2.toNatClampNeg)) : ab_C w d mt_K_isWeak [.ref kx, .int v1, .int v2] (I, L, ab_RR, n, nc, ns) (.inl (some (.int 1)), (I, L, ab_RR, n, nc, ns)) := by
  refine ab_C_of (by decide) rfl (Nat.le_of_ble_eq_true rfl) hT ?_
  have hc := Nat.le_refl nc
  have hs := Nat.le_refl ns
  refine ab_aload_n (i := 0) d_K_isWeak_0 rfl rfl ?_
  refine ab_getR (ci := 10) (k := 10) (j := kx_rings) d_K_isWeak_1 v_482 rfl (by decide) (by decide) rfl r_kx_10 ?_
  refine ab_iload_n (i := 1) d_K_isWeak_4 rfl rfl ?_
  refine ab_iald d_K_isWeak_5 rfl rfl e1 ?_
  refine ab_if_eq (tgt := 28) d_K_isWeak_6 (by decide) (fun c9 => absurd c9 e2) (fun _ => ?_)
  refine ab_aload_n (i := 0) d_K_isWeak_9 rfl rfl ?_
  refine ab_getR (ci := 10) (k := 10) (j := kx_rings) d_K_isWeak_10 v_482 rfl (by decide) (by decide) rfl r_kx_10 ?_
  refine ab_iload_n (i := 1) d_K_isWeak_13 rfl rfl ?_
  refine ab_iald d_K_isWeak_14 rfl rfl e3 ?_
  refine ab_aload_n (i := 0) d_K_isWeak_15 rfl rfl ?_
  refine ab_getR (ci := 10) (k := 10) (j := kx_rings) d_K_isWeak_16 v_482 rfl (by decide) (by decide) rfl r_kx_10 ?_
  refine ab_iload_n (i := 2) d_K_isWeak_19 rfl rfl ?_
  refine ab_iald d_K_isWeak_20 rfl rfl e4 ?_
  refine ab_icmp_ne (tgt := 28) d_K_isWeak_21 (by decide) (fun c9 => absurd e5 c9) (fun _ => ?_)
  refine ab_iconst (v := 1) d_K_isWeak_24 rfl ?_
  refine ab_goto (tgt := 29) d_K_isWeak_25 (by decide) ?_
  exact ab_iret (ty := .boolean) d_K_isWeak_29 rfl rfl rfl
theorem r_K_weakCouples_0 {w : ab_Wd} {d n nc ns : Nat} {I : Nat → Nat → Int32} {L : Nat → Nat → Int64} {res : ab_Re} (hT : w.1.stackTraces = false)  (hc : nc ≤ res.2.2.2.2.2.1) (hs : ns ≤ res.2.2.2.2.2.2)
    (h : ∃ (I2 : Nat → Nat → Int32), ab_C w d mt_K_markRings [.ref kx] (I, L, ab_RR, n, nc, ns) (.inl none, (I2, L, ab_RR, n, nc, ns)) ∧ ab_E w (d + 1) mt_K_weakCouples 8 [.ref kx, .int 0, .int 0, .null] [] (I2, L, ab_RR, n, nc, ns) res) : ab_E w (d + 1) mt_K_weakCouples 0 [.ref kx, .null, .null, .null] [] (I, L, ab_RR, n, nc, ns) res := by
  refine ab_aload_n (i := 0) d_K_weakCouples_0 rfl rfl ?_
  obtain ⟨I2, hC, h⟩ := h
  refine ab_callV (me2 := mt_K_markRings) (b := kx) (as := []) (st := []) (rv := none) (M2 := (I2, L, ab_RR, n, nc, ns)) d_K_weakCouples_1 ce_K_markRings v_988 v_990 v_35 (by decide) rfl (Nat.le_of_ble_eq_true rfl) hC (Nat.le_refl _) (Nat.le_refl _) hc hs (fun j h9 => by cases h9) (fun _ _ => rfl) ?_
  show ab_E w (d + 1) mt_K_weakCouples 4 [.ref kx, .null, .null, .null] [] (I2, L, ab_RR, n, nc, ns) res
  refine ab_iconst (v := 0) d_K_weakCouples_4 rfl ?_
  refine ab_istore_n (i := 1) d_K_weakCouples_5 rfl (by decide) (Or.inr rfl) ?_
  refine ab_iconst (v := 0) d_K_weakCouples_6 rfl ?_
  refine ab_istore_n (i := 2) d_K_weakCouples_7 rfl (by decide) (Or.inr rfl) ?_
  exact h
theorem r_K_weakCouples_8 {w : ab_Wd} {d n nc ns : Nat} {I : Nat → Nat → Int32} {L : Nat → Nat → Int64} {res : ab_Re} (hT : w.1.stackTraces = false) (v1 : Int32) (v2 : Int32) (hc : nc ≤ res.2.2.2.2.2.1) (hs : ns ≤ res.2.2.2.2.2.2)
    (h : (((I kx_now_cables 1) ≤ v2 → (res = (.inl (some (.int v1)), (I, L, ab_RR, n, nc, ns)))) ∧ (¬ (I kx_now_cables 1) ≤ v2 → (ab_E w (d + 1) mt_K_weakCouples 26 [.ref kx, .int v1, .int v2, .int (v2 + 1)] [] (I, L, ab_RR, n, nc, ns) res)))) : ab_E w (d + 1) mt_K_weakCouples 8 [.ref kx, .int v1, .int v2, .null] [] (I, L, ab_RR, n, nc, ns) res := by
  refine ab_iload_n (i := 2) d_K_weakCouples_8 rfl rfl ?_
  refine ab_aload_n (i := 0) d_K_weakCouples_9 rfl rfl ?_
  refine ab_getR (ci := 10) (k := 3) (j := kx_now) d_K_weakCouples_10 v_475 rfl (by decide) (by decide) rfl r_kx_3 ?_
  refine ab_getR (ci := 6) (k := 0) (j := kx_now_cables) d_K_weakCouples_13 v_294 rfl (by decide) (by decide) rfl r_kx_now_0 ?_
  refine ab_getI (ci := 1) (k := 1) d_K_weakCouples_16 v_199 rfl (by decide) (by decide) rfl ?_
  refine ab_icmp_ge (tgt := 64) d_K_weakCouples_19 (by decide) (fun c1 => ?_) (fun c1 => ?_)
  · have h := h.1 c1
    refine ab_iload_n (i := 1) d_K_weakCouples_64 rfl rfl ?_
    exact ab_iret (ty := .int) d_K_weakCouples_65 rfl rfl h
  · have h := h.2 c1
    refine ab_iload_n (i := 2) d_K_weakCouples_22 rfl rfl ?_
    refine ab_iconst (v := 1) d_K_weakCouples_23 rfl ?_
    refine ab_iadd d_K_weakCouples_24 ?_
    refine ab_istore_n (i := 3) d_K_weakCouples_25 rfl (by decide) (Or.inr rfl) ?_
    exact h
theorem r_K_weakCouples_26 {w : ab_Wd} {d n nc ns : Nat} {I : Nat → Nat → Int32} {L : Nat → Nat → Int64} {res : ab_Re} (hT : w.1.stackTraces = false) (v1 : Int32) (v2 : Int32) (v3 : Int32) (hc : nc ≤ res.2.2.2.2.2.1) (hs : ns ≤ res.2.2.2.2.2.2)
    (h : (((I kx_now_cables 1) ≤ v3 → (ab_E w (d + 1) mt_K_weakCouples 8 [.ref kx, .int v1, .int (v2 + 1), .null] [] (I, L, ab_RR, n, nc, ns) res)) ∧ (¬ (I kx_now_cables 1) ≤ v3 → ((vp_in v2 24) ∧ (((I kx_rings v2.toNatClampNeg) = 0 → (ab_E w (d + 1) mt_K_weakCouples 26 [.ref kx, .int v1, .int v2, .int (v3 + 1)] [] (I, L, ab_RR, n, nc, ns) res)) ∧ (¬ (I kx_rings v2.toNatClampNeg) = 0 → ((vp_in v3 24) ∧ (((I kx_rings v2.toNatClampNeg) = (I kx_rings v3.toNatClampNeg) → (ab_E w (d + 1) mt_K_weakCouples 26 [.ref kx, .int (v1 + 1), .int v2, .int (v3 + 1)] [] (I, L, ab_RR, n, nc, ns) res)) ∧ (¬ (I kx_rings v2.toNatClampNeg) = (I kx_rings v3.toNatClampNeg) → (ab_E w (d + 1) mt_K_weakCouples 26 [.ref kx, .int v1, .int v2, .int (v3 + 1)] [] (I, L, ab_RR, n, nc, ns) res)))))))))) : ab_E w (d + 1) mt_K_weakCouples 26 [.ref kx, .int v1, .int v2, .int v3] [] (I, L, ab_RR, n, nc, ns) res := by
  refine ab_iload_n (i := 3) d_K_weakCouples_26 rfl rfl ?_
  refine ab_aload_n (i := 0) d_K_weakCouples_27 rfl rfl ?_
  refine ab_getR (ci := 10) (k := 3) (j := kx_now) d_K_weakCouples_28 v_475 rfl (by decide) (by decide) rfl r_kx_3 ?_
  refine ab_getR (ci := 6) (k := 0) (j := kx_now_cables) d_K_weakCouples_31 v_294 rfl (by decide) (by decide) rfl r_kx_now_0 ?_
  refine ab_getI (ci := 1) (k := 1) d_K_weakCouples_34 v_199 rfl (by decide) (by decide) rfl ?_
  refine ab_icmp_ge (tgt := 58) d_K_weakCouples_37 (by decide) (fun c1 => ?_) (fun c1 => ?_)
  · have h := h.1 c1
    refine ab_iinc (i := 2) (v := (v2 + 1)) d_K_weakCouples_58 rfl rfl (by decide) (Or.inr rfl) ?_
    refine ab_goto (tgt := 8) d_K_weakCouples_61 (by decide) ?_
    refine ab_drop 3 ?_
    exact h
  · have h := h.2 c1
    refine ab_aload_n (i := 0) d_K_weakCouples_40 rfl rfl ?_
    refine ab_iload_n (i := 2) d_K_weakCouples_41 rfl rfl ?_
    refine ab_iload_n (i := 3) d_K_weakCouples_42 rfl rfl ?_
    have g3 := h.1; have h := h.2
    by_cases c4 : (I kx_rings v2.toNatClampNeg) = 0
    · have h := h.1 c4
      refine ab_callV (me2 := mt_K_isWeak) (b := kx) (as := [.int v2, .int v3]) (st := []) (rv := (some (.int 0))) (M2 := (I, L, ab_RR, n, nc, ns)) d_K_weakCouples_43 ce_K_isWeak v_1012 v_1014 v_38 (by decide) rfl (Nat.le_of_ble_eq_true rfl) (cx_K_isWeak_0 v2 v3 hT g3 c4) (Nat.le_refl _) (Nat.le_refl _) hc hs (fun j h9 => by cases h9) (fun _ _ => rfl) ?_
      show ab_E w (d + 1) mt_K_weakCouples 46 [.ref kx, .int v1, .int v2, .int v3] [.int 0] (I, L, ab_RR, n, nc, ns) res
      refine ab_if_eq (tgt := 52) d_K_weakCouples_46 (by decide) (fun _ => ?_) (fun c9 => absurd (show (0 : Int32) = 0 from by decide) c9)
      refine ab_iinc (i := 3) (v := (v3 + 1)) d_K_weakCouples_52 rfl rfl (by decide) (Or.inr rfl) ?_
      refine ab_goto (tgt := 26) d_K_weakCouples_55 (by decide) ?_
      exact h
    · have h := h.2 c4
      have g5 := h.1; have h := h.2
      by_cases c6 : (I kx_rings v2.toNatClampNeg) = (I kx_rings v3.toNatClampNeg)
      · have h := h.1 c6
        refine ab_callV (me2 := mt_K_isWeak) (b := kx) (as := [.int v2, .int v3]) (st := []) (rv := (some (.int 1))) (M2 := (I, L, ab_RR, n, nc, ns)) d_K_weakCouples_43 ce_K_isWeak v_1012 v_1014 v_38 (by decide) rfl (Nat.le_of_ble_eq_true rfl) (cx_K_isWeak_2 v2 v3 hT g3 c4 g3 g5 c6) (Nat.le_refl _) (Nat.le_refl _) hc hs (fun j h9 => by cases h9) (fun _ _ => rfl) ?_
        show ab_E w (d + 1) mt_K_weakCouples 46 [.ref kx, .int v1, .int v2, .int v3] [.int 1] (I, L, ab_RR, n, nc, ns) res
        refine ab_if_eq (tgt := 52) d_K_weakCouples_46 (by decide) (fun c9 => absurd c9 (show ¬ (1 : Int32) = 0 from by decide)) (fun _ => ?_)
        refine ab_iinc (i := 1) (v := (v1 + 1)) d_K_weakCouples_49 rfl rfl (by decide) (Or.inr rfl) ?_
        refine ab_iinc (i := 3) (v := (v3 + 1)) d_K_weakCouples_52 rfl rfl (by decide) (Or.inr rfl) ?_
        refine ab_goto (tgt := 26) d_K_weakCouples_55 (by decide) ?_
        exact h
      · have h := h.2 c6
        refine ab_callV (me2 := mt_K_isWeak) (b := kx) (as := [.int v2, .int v3]) (st := []) (rv := (some (.int 0))) (M2 := (I, L, ab_RR, n, nc, ns)) d_K_weakCouples_43 ce_K_isWeak v_1012 v_1014 v_38 (by decide) rfl (Nat.le_of_ble_eq_true rfl) (cx_K_isWeak_1 v2 v3 hT g3 c4 g3 g5 c6) (Nat.le_refl _) (Nat.le_refl _) hc hs (fun j h9 => by cases h9) (fun _ _ => rfl) ?_
        show ab_E w (d + 1) mt_K_weakCouples 46 [.ref kx, .int v1, .int v2, .int v3] [.int 0] (I, L, ab_RR, n, nc, ns) res
        refine ab_if_eq (tgt := 52) d_K_weakCouples_46 (by decide) (fun _ => ?_) (fun c9 => absurd (show (0 : Int32) = 0 from by decide) c9)
        refine ab_iinc (i := 3) (v := (v3 + 1)) d_K_weakCouples_52 rfl rfl (by decide) (Or.inr rfl) ?_
        refine ab_goto (tgt := 26) d_K_weakCouples_55 (by decide) ?_
        exact h
theorem r_K_firstWeak_0 {w : ab_Wd} {d n nc ns : Nat} {I : Nat → Nat → Int32} {L : Nat → Nat → Int64} {res : ab_Re} (hT : w.1.stackTraces = false)  (hc : nc ≤ res.2.2.2.2.2.1) (hs : ns ≤ res.2.2.2.2.2.2)
    (h : ∃ (I2 : Nat → Nat → Int32), ab_C w d mt_K_markRings [.ref kx] (I, L, ab_RR, n, nc, ns) (.inl none, (I2, L, ab_RR, n, nc, ns)) ∧ ab_E w (d + 1) mt_K_firstWeak 6 [.ref kx, .int 0, .null] [] (I2, L, ab_RR, n, nc, ns) res) : ab_E w (d + 1) mt_K_firstWeak 0 [.ref kx, .null, .null] [] (I, L, ab_RR, n, nc, ns) res := by
  refine ab_aload_n (i := 0) d_K_firstWeak_0 rfl rfl ?_
  obtain ⟨I2, hC, h⟩ := h
  refine ab_callV (me2 := mt_K_markRings) (b := kx) (as := []) (st := []) (rv := none) (M2 := (I2, L, ab_RR, n, nc, ns)) d_K_firstWeak_1 ce_K_markRings v_988 v_990 v_35 (by decide) rfl (Nat.le_of_ble_eq_true rfl) hC (Nat.le_refl _) (Nat.le_refl _) hc hs (fun j h9 => by cases h9) (fun _ _ => rfl) ?_
  show ab_E w (d + 1) mt_K_firstWeak 4 [.ref kx, .null, .null] [] (I2, L, ab_RR, n, nc, ns) res
  refine ab_iconst (v := 0) d_K_firstWeak_4 rfl ?_
  refine ab_istore_n (i := 1) d_K_firstWeak_5 rfl (by decide) (Or.inr rfl) ?_
  exact h
theorem r_K_firstWeak_6 {w : ab_Wd} {d n nc ns : Nat} {I : Nat → Nat → Int32} {L : Nat → Nat → Int64} {res : ab_Re} (hT : w.1.stackTraces = false) (v1 : Int32) (hc : nc ≤ res.2.2.2.2.2.1) (hs : ns ≤ res.2.2.2.2.2.2)
    (h : (((I kx_now_cables 1) ≤ v1 → (res = (.inl (some (.int (-1))), (I, L, ab_RR, n, nc, ns)))) ∧ (¬ (I kx_now_cables 1) ≤ v1 → (ab_E w (d + 1) mt_K_firstWeak 24 [.ref kx, .int v1, .int (v1 + 1)] [] (I, L, ab_RR, n, nc, ns) res)))) : ab_E w (d + 1) mt_K_firstWeak 6 [.ref kx, .int v1, .null] [] (I, L, ab_RR, n, nc, ns) res := by
  refine ab_iload_n (i := 1) d_K_firstWeak_6 rfl rfl ?_
  refine ab_aload_n (i := 0) d_K_firstWeak_7 rfl rfl ?_
  refine ab_getR (ci := 10) (k := 3) (j := kx_now) d_K_firstWeak_8 v_475 rfl (by decide) (by decide) rfl r_kx_3 ?_
  refine ab_getR (ci := 6) (k := 0) (j := kx_now_cables) d_K_firstWeak_11 v_294 rfl (by decide) (by decide) rfl r_kx_now_0 ?_
  refine ab_getI (ci := 1) (k := 1) d_K_firstWeak_14 v_199 rfl (by decide) (by decide) rfl ?_
  refine ab_icmp_ge (tgt := 66) d_K_firstWeak_17 (by decide) (fun c1 => ?_) (fun c1 => ?_)
  · have h := h.1 c1
    refine ab_iconst (v := (-1)) d_K_firstWeak_66 rfl ?_
    exact ab_iret (ty := .int) d_K_firstWeak_67 rfl rfl h
  · have h := h.2 c1
    refine ab_iload_n (i := 1) d_K_firstWeak_20 rfl rfl ?_
    refine ab_iconst (v := 1) d_K_firstWeak_21 rfl ?_
    refine ab_iadd d_K_firstWeak_22 ?_
    refine ab_istore_n (i := 2) d_K_firstWeak_23 rfl (by decide) (Or.inr rfl) ?_
    exact h
theorem r_K_firstWeak_24 {w : ab_Wd} {d n nc ns : Nat} {I : Nat → Nat → Int32} {L : Nat → Nat → Int64} {res : ab_Re} (hT : w.1.stackTraces = false) (v1 : Int32) (v2 : Int32) (hc : nc ≤ res.2.2.2.2.2.1) (hs : ns ≤ res.2.2.2.2.2.2)
    (h : (((I kx_now_cables 1) ≤ v2 → (ab_E w (d + 1) mt_K_firstWeak 6 [.ref kx, .int (v1 + 1), .null] [] (I, L, ab_RR, n, nc, ns) res)) ∧ (¬ (I kx_now_cables 1) ≤ v2 → ((vp_in v1 24) ∧ (((I kx_rings v1.toNatClampNeg) = 0 → (ab_E w (d + 1) mt_K_firstWeak 24 [.ref kx, .int v1, .int (v2 + 1)] [] (I, L, ab_RR, n, nc, ns) res)) ∧ (¬ (I kx_rings v1.toNatClampNeg) = 0 → ((vp_in v2 24) ∧ (((I kx_rings v1.toNatClampNeg) = (I kx_rings v2.toNatClampNeg) → (res = (.inl (some (.int ((100 * v1) + v2))), (I, L, ab_RR, n, nc, ns)))) ∧ (¬ (I kx_rings v1.toNatClampNeg) = (I kx_rings v2.toNatClampNeg) → (ab_E w (d + 1) mt_K_firstWeak 24 [.ref kx, .int v1, .int (v2 + 1)] [] (I, L, ab_RR, n, nc, ns) res)))))))))) : ab_E w (d + 1) mt_K_firstWeak 24 [.ref kx, .int v1, .int v2] [] (I, L, ab_RR, n, nc, ns) res := by
  refine ab_iload_n (i := 2) d_K_firstWeak_24 rfl rfl ?_
  refine ab_aload_n (i := 0) d_K_firstWeak_25 rfl rfl ?_
  refine ab_getR (ci := 10) (k := 3) (j := kx_now) d_K_firstWeak_26 v_475 rfl (by decide) (by decide) rfl r_kx_3 ?_
  refine ab_getR (ci := 6) (k := 0) (j := kx_now_cables) d_K_firstWeak_29 v_294 rfl (by decide) (by decide) rfl r_kx_now_0 ?_
  refine ab_getI (ci := 1) (k := 1) d_K_firstWeak_32 v_199 rfl (by decide) (by decide) rfl ?_
  refine ab_icmp_ge (tgt := 60) d_K_firstWeak_35 (by decide) (fun c1 => ?_) (fun c1 => ?_)
  · have h := h.1 c1
    refine ab_iinc (i := 1) (v := (v1 + 1)) d_K_firstWeak_60 rfl rfl (by decide) (Or.inr rfl) ?_
    refine ab_goto (tgt := 6) d_K_firstWeak_63 (by decide) ?_
    refine ab_drop 2 ?_
    exact h
  · have h := h.2 c1
    refine ab_aload_n (i := 0) d_K_firstWeak_38 rfl rfl ?_
    refine ab_iload_n (i := 1) d_K_firstWeak_39 rfl rfl ?_
    refine ab_iload_n (i := 2) d_K_firstWeak_40 rfl rfl ?_
    have g3 := h.1; have h := h.2
    by_cases c4 : (I kx_rings v1.toNatClampNeg) = 0
    · have h := h.1 c4
      refine ab_callV (me2 := mt_K_isWeak) (b := kx) (as := [.int v1, .int v2]) (st := []) (rv := (some (.int 0))) (M2 := (I, L, ab_RR, n, nc, ns)) d_K_firstWeak_41 ce_K_isWeak v_1012 v_1014 v_38 (by decide) rfl (Nat.le_of_ble_eq_true rfl) (cx_K_isWeak_0 v1 v2 hT g3 c4) (Nat.le_refl _) (Nat.le_refl _) hc hs (fun j h9 => by cases h9) (fun _ _ => rfl) ?_
      show ab_E w (d + 1) mt_K_firstWeak 44 [.ref kx, .int v1, .int v2] [.int 0] (I, L, ab_RR, n, nc, ns) res
      refine ab_if_eq (tgt := 54) d_K_firstWeak_44 (by decide) (fun _ => ?_) (fun c9 => absurd (show (0 : Int32) = 0 from by decide) c9)
      refine ab_iinc (i := 2) (v := (v2 + 1)) d_K_firstWeak_54 rfl rfl (by decide) (Or.inr rfl) ?_
      refine ab_goto (tgt := 24) d_K_firstWeak_57 (by decide) ?_
      exact h
    · have h := h.2 c4
      have g5 := h.1; have h := h.2
      by_cases c6 : (I kx_rings v1.toNatClampNeg) = (I kx_rings v2.toNatClampNeg)
      · have h := h.1 c6
        refine ab_callV (me2 := mt_K_isWeak) (b := kx) (as := [.int v1, .int v2]) (st := []) (rv := (some (.int 1))) (M2 := (I, L, ab_RR, n, nc, ns)) d_K_firstWeak_41 ce_K_isWeak v_1012 v_1014 v_38 (by decide) rfl (Nat.le_of_ble_eq_true rfl) (cx_K_isWeak_2 v1 v2 hT g3 c4 g3 g5 c6) (Nat.le_refl _) (Nat.le_refl _) hc hs (fun j h9 => by cases h9) (fun _ _ => rfl) ?_
        show ab_E w (d + 1) mt_K_firstWeak 44 [.ref kx, .int v1, .int v2] [.int 1] (I, L, ab_RR, n, nc, ns) res
        refine ab_if_eq (tgt := 54) d_K_firstWeak_44 (by decide) (fun c9 => absurd c9 (show ¬ (1 : Int32) = 0 from by decide)) (fun _ => ?_)
        refine ab_bipush (v := 100) d_K_firstWeak_47 rfl ?_
        refine ab_iload_n (i := 1) d_K_firstWeak_49 rfl rfl ?_
        refine ab_imul d_K_firstWeak_50 ?_
        refine ab_iload_n (i := 2) d_K_firstWeak_51 rfl rfl ?_
        refine ab_iadd d_K_firstWeak_52 ?_
        exact ab_iret (ty := .int) d_K_firstWeak_53 rfl rfl h
      · have h := h.2 c6
        refine ab_callV (me2 := mt_K_isWeak) (b := kx) (as := [.int v1, .int v2]) (st := []) (rv := (some (.int 0))) (M2 := (I, L, ab_RR, n, nc, ns)) d_K_firstWeak_41 ce_K_isWeak v_1012 v_1014 v_38 (by decide) rfl (Nat.le_of_ble_eq_true rfl) (cx_K_isWeak_1 v1 v2 hT g3 c4 g3 g5 c6) (Nat.le_refl _) (Nat.le_refl _) hc hs (fun j h9 => by cases h9) (fun _ _ => rfl) ?_
        show ab_E w (d + 1) mt_K_firstWeak 44 [.ref kx, .int v1, .int v2] [.int 0] (I, L, ab_RR, n, nc, ns) res
        refine ab_if_eq (tgt := 54) d_K_firstWeak_44 (by decide) (fun _ => ?_) (fun c9 => absurd (show (0 : Int32) = 0 from by decide) c9)
        refine ab_iinc (i := 2) (v := (v2 + 1)) d_K_firstWeak_54 rfl rfl (by decide) (Or.inr rfl) ?_
        refine ab_goto (tgt := 24) d_K_firstWeak_57 (by decide) ?_
        exact h
theorem cx_Roads_length_0 {w : ab_Wd} {d n nc ns : Nat} {I : Nat → Nat → Int32} {L : Nat → Nat → Int64} (v1 : Int32) (v2 : Int32) (hT : w.1.stackTraces = false) (e1 : (vp_in ((v1 * 10) + v2) 100)) : ab_C w d mt_Roads_length [.ref kx_roads, .int v1, .int v2] (I, L, ab_RR, n, nc, ns) (.inl (some (.int (I kx_roads_lengths ((v1 * 10) + v2).toNatClampNeg))), (I, L, ab_RR, n, nc, ns)) := by
  refine ab_C_of (by decide) rfl (Nat.le_of_ble_eq_true rfl) hT ?_
  have hc := Nat.le_refl nc
  have hs := Nat.le_refl ns
  refine ab_aload_n (i := 0) d_Roads_length_0 rfl rfl ?_
  refine ab_getR (ci := 5) (k := 1) (j := kx_roads_lengths) d_Roads_length_1 v_386 rfl (by decide) (by decide) rfl r_kx_roads_1 ?_
  refine ab_iload_n (i := 1) d_Roads_length_4 rfl rfl ?_
  refine ab_bipush (v := 10) d_Roads_length_5 rfl ?_
  refine ab_imul d_Roads_length_7 ?_
  refine ab_iload_n (i := 2) d_Roads_length_8 rfl rfl ?_
  refine ab_iadd d_Roads_length_9 ?_
  refine ab_iald d_Roads_length_10 rfl rfl e1 ?_
  exact ab_iret (ty := .int) d_Roads_length_11 rfl rfl rfl
theorem r_K_detours_0 {w : ab_Wd} {d n nc ns : Nat} {I : Nat → Nat → Int32} {L : Nat → Nat → Int64} {res : ab_Re} (hT : w.1.stackTraces = false)  (hc : nc ≤ res.2.2.2.2.2.1) (hs : ns ≤ res.2.2.2.2.2.2)
    (h : ∃ (I2 : Nat → Nat → Int32), ab_C w (d + 1) mt_Roads_measure [.ref kx_roads, .ref kx_now_cables] (I, L, ab_RR, n, nc, ns) (.inl none, (I2, L, ab_RR, n, nc, ns)) ∧ ab_E w (d + 2) mt_K_detours 20 [.ref kx, .ref kx_now_cables, .int 0, .int 0, .null] [] (I2, L, ab_RR, n, nc, ns) res) : ab_E w (d + 2) mt_K_detours 0 [.ref kx, .null, .null, .null, .null] [] (I, L, ab_RR, n, nc, ns) res := by
  refine ab_aload_n (i := 0) d_K_detours_0 rfl rfl ?_
  refine ab_getR (ci := 10) (k := 3) (j := kx_now) d_K_detours_1 v_475 rfl (by decide) (by decide) rfl r_kx_3 ?_
  refine ab_getR (ci := 6) (k := 0) (j := kx_now_cables) d_K_detours_4 v_294 rfl (by decide) (by decide) rfl r_kx_now_0 ?_
  refine ab_astore_n (i := 1) d_K_detours_7 rfl (by decide) (Or.inr rfl) ?_
  refine ab_aload_n (i := 0) d_K_detours_8 rfl rfl ?_
  refine ab_getR (ci := 10) (k := 11) (j := kx_roads) d_K_detours_9 v_483 rfl (by decide) (by decide) rfl r_kx_11 ?_
  refine ab_aload_n (i := 1) d_K_detours_12 rfl rfl ?_
  obtain ⟨I2, hC, h⟩ := h
  refine ab_callV (me2 := mt_Roads_measure) (b := kx_roads) (as := [.ref kx_now_cables]) (st := []) (rv := none) (M2 := (I2, L, ab_RR, n, nc, ns)) d_K_detours_13 ce_Roads_measure v_1029 v_1030 v_1031 (by decide) rfl (Nat.le_of_ble_eq_true rfl) hC (Nat.le_refl _) (Nat.le_refl _) hc hs (fun j h9 => by cases h9) (fun _ _ => rfl) ?_
  show ab_E w (d + 2) mt_K_detours 16 [.ref kx, .ref kx_now_cables, .null, .null, .null] [] (I2, L, ab_RR, n, nc, ns) res
  refine ab_iconst (v := 0) d_K_detours_16 rfl ?_
  refine ab_istore_n (i := 2) d_K_detours_17 rfl (by decide) (Or.inr rfl) ?_
  refine ab_iconst (v := 0) d_K_detours_18 rfl ?_
  refine ab_istore_n (i := 3) d_K_detours_19 rfl (by decide) (Or.inr rfl) ?_
  exact h
theorem r_K_detours_20 {w : ab_Wd} {d n nc ns : Nat} {I : Nat → Nat → Int32} {L : Nat → Nat → Int64} {res : ab_Re} (hT : w.1.stackTraces = false) (v2 : Int32) (v3 : Int32) (hc : nc ≤ res.2.2.2.2.2.1) (hs : ns ≤ res.2.2.2.2.2.2)
    (h : (((I kx_now_cables 0) ≤ v3 → (res = (.inl (some (.int v2)), (I, L, ab_RR, n, nc, ns)))) ∧ (¬ (I kx_now_cables 0) ≤ v3 → (ab_E w (d + 2) mt_K_detours 33 [.ref kx, .ref kx_now_cables, .int v2, .int v3, .int (v3 + 1)] [] (I, L, ab_RR, n, nc, ns) res)))) : ab_E w (d + 2) mt_K_detours 20 [.ref kx, .ref kx_now_cables, .int v2, .int v3, .null] [] (I, L, ab_RR, n, nc, ns) res := by
  refine ab_iload_n (i := 3) d_K_detours_20 rfl rfl ?_
  refine ab_aload_n (i := 1) d_K_detours_21 rfl rfl ?_
  refine ab_getI (ci := 1) (k := 0) d_K_detours_22 v_190 rfl (by decide) (by decide) rfl ?_
  refine ab_icmp_ge (tgt := 80) d_K_detours_25 (by decide) (fun c1 => ?_) (fun c1 => ?_)
  · have h := h.1 c1
    refine ab_iload_n (i := 2) d_K_detours_80 rfl rfl ?_
    exact ab_iret (ty := .int) d_K_detours_81 rfl rfl h
  · have h := h.2 c1
    refine ab_iload_n (i := 3) d_K_detours_28 rfl rfl ?_
    refine ab_iconst (v := 1) d_K_detours_29 rfl ?_
    refine ab_iadd d_K_detours_30 ?_
    refine ab_istore (i := 4) d_K_detours_31 (by decide) (Or.inr rfl) ?_
    exact h
theorem r_K_detours_33 {w : ab_Wd} {d n nc ns : Nat} {I : Nat → Nat → Int32} {L : Nat → Nat → Int64} {res : ab_Re} (hT : w.1.stackTraces = false) (v2 : Int32) (v3 : Int32) (v4 : Int32) (hc : nc ≤ res.2.2.2.2.2.1) (hs : ns ≤ res.2.2.2.2.2.2)
    (h : (((I kx_now_cables 0) ≤ v4 → (ab_E w (d + 2) mt_K_detours 20 [.ref kx, .ref kx_now_cables, .int v2, .int (v3 + 1), .null] [] (I, L, ab_RR, n, nc, ns) res)) ∧ (¬ (I kx_now_cables 0) ≤ v4 → ((vp_in ((v3 * 10) + v4) 100) ∧ (((I kx_ways_span ((v3 * 10) + v4).toNatClampNeg) ≤ (I kx_roads_lengths ((v3 * 10) + v4).toNatClampNeg) → (ab_E w (d + 2) mt_K_detours 33 [.ref kx, .ref kx_now_cables, .int v2, .int v3, .int (v4 + 1)] [] (I, L, ab_RR, n, nc, ns) res)) ∧ (¬ (I kx_ways_span ((v3 * 10) + v4).toNatClampNeg) ≤ (I kx_roads_lengths ((v3 * 10) + v4).toNatClampNeg) → (ab_E w (d + 2) mt_K_detours 33 [.ref kx, .ref kx_now_cables, .int (v2 + 1), .int v3, .int (v4 + 1)] [] (I, L, ab_RR, n, nc, ns) res))))))) : ab_E w (d + 2) mt_K_detours 33 [.ref kx, .ref kx_now_cables, .int v2, .int v3, .int v4] [] (I, L, ab_RR, n, nc, ns) res := by
  refine ab_iload (i := 4) d_K_detours_33 rfl ?_
  refine ab_aload_n (i := 1) d_K_detours_35 rfl rfl ?_
  refine ab_getI (ci := 1) (k := 0) d_K_detours_36 v_190 rfl (by decide) (by decide) rfl ?_
  refine ab_icmp_ge (tgt := 74) d_K_detours_39 (by decide) (fun c1 => ?_) (fun c1 => ?_)
  · have h := h.1 c1
    refine ab_iinc (i := 3) (v := (v3 + 1)) d_K_detours_74 rfl rfl (by decide) (Or.inr rfl) ?_
    refine ab_goto (tgt := 20) d_K_detours_77 (by decide) ?_
    refine ab_drop 4 ?_
    exact h
  · have h := h.2 c1
    refine ab_aload_n (i := 0) d_K_detours_42 rfl rfl ?_
    refine ab_getR (ci := 10) (k := 7) (j := kx_ways) d_K_detours_43 v_479 rfl (by decide) (by decide) rfl r_kx_7 ?_
    refine ab_iload_n (i := 3) d_K_detours_46 rfl rfl ?_
    refine ab_iload (i := 4) d_K_detours_47 rfl ?_
    have g3 := h.1; have h := h.2
    refine ab_callV (me2 := mt_Ways_spanOf) (b := kx_ways) (as := [.int v3, .int v4]) (st := []) (rv := (some (.int (I kx_ways_span ((v3 * 10) + v4).toNatClampNeg)))) (M2 := (I, L, ab_RR, n, nc, ns)) d_K_detours_49 ce_Ways_spanOf v_1000 v_1001 v_1002 (by decide) rfl (Nat.le_of_ble_eq_true rfl) (cx_Ways_spanOf_0 v3 v4 hT g3) (Nat.le_refl _) (Nat.le_refl _) hc hs (fun j h9 => by cases h9) (fun _ _ => rfl) ?_
    show ab_E w (d + 2) mt_K_detours 52 [.ref kx, .ref kx_now_cables, .int v2, .int v3, .int v4] [.int (I kx_ways_span ((v3 * 10) + v4).toNatClampNeg)] (I, L, ab_RR, n, nc, ns) res
    refine ab_aload_n (i := 0) d_K_detours_52 rfl rfl ?_
    refine ab_getR (ci := 10) (k := 11) (j := kx_roads) d_K_detours_53 v_483 rfl (by decide) (by decide) rfl r_kx_11 ?_
    refine ab_iload_n (i := 3) d_K_detours_56 rfl rfl ?_
    refine ab_iload (i := 4) d_K_detours_57 rfl ?_
    refine ab_callV (me2 := mt_Roads_length) (b := kx_roads) (as := [.int v3, .int v4]) (st := [.int (I kx_ways_span ((v3 * 10) + v4).toNatClampNeg)]) (rv := (some (.int (I kx_roads_lengths ((v3 * 10) + v4).toNatClampNeg)))) (M2 := (I, L, ab_RR, n, nc, ns)) d_K_detours_59 ce_Roads_length v_1048 v_1045 v_1046 (by decide) rfl (Nat.le_of_ble_eq_true rfl) (cx_Roads_length_0 v3 v4 hT g3) (Nat.le_refl _) (Nat.le_refl _) hc hs (fun j h9 => by cases h9) (fun _ _ => rfl) ?_
    show ab_E w (d + 2) mt_K_detours 62 [.ref kx, .ref kx_now_cables, .int v2, .int v3, .int v4] [.int (I kx_roads_lengths ((v3 * 10) + v4).toNatClampNeg), .int (I kx_ways_span ((v3 * 10) + v4).toNatClampNeg)] (I, L, ab_RR, n, nc, ns) res
    refine ab_icmp_le (tgt := 68) d_K_detours_62 (by decide) (fun c5 => ?_) (fun c5 => ?_)
    · have h := h.1 c5
      refine ab_iinc (i := 4) (v := (v4 + 1)) d_K_detours_68 rfl rfl (by decide) (Or.inr rfl) ?_
      refine ab_goto (tgt := 33) d_K_detours_71 (by decide) ?_
      exact h
    · have h := h.2 c5
      refine ab_iinc (i := 2) (v := (v2 + 1)) d_K_detours_65 rfl rfl (by decide) (Or.inr rfl) ?_
      refine ab_iinc (i := 4) (v := (v4 + 1)) d_K_detours_68 rfl rfl (by decide) (Or.inr rfl) ?_
      refine ab_goto (tgt := 33) d_K_detours_71 (by decide) ?_
      exact h
theorem r_K_aloneOf_0 {w : ab_Wd} {d n nc ns : Nat} {I : Nat → Nat → Int32} {L : Nat → Nat → Int64} {res : ab_Re} (hT : w.1.stackTraces = false) (v1 : Int32) (hc : nc ≤ res.2.2.2.2.2.1) (hs : ns ≤ res.2.2.2.2.2.2)
    (h : ∃ (r1 : Int32), ab_C w d mt_Cables_endingAt [.ref kx_now_cables, .int v1] (I, L, ab_RR, n, nc, ns) (.inl (some (.int r1)), (I, L, ab_RR, n, nc, ns)) ∧ ∃ (r2 : Int32), ab_C w d mt_Cables_cheapestOf [.ref kx_now_cables, .int (r1 &&& (I kx_now_cables 2))] (I, L, ab_RR, n, nc, ns) (.inl (some (.int r2)), (I, L, ab_RR, n, nc, ns)) ∧ ((¬ r2 = (-1) → (∃ (I5 : Nat → Nat → Int32), ab_C w d mt_Forest_grow [.ref kx_trialNet, .ref kx_now_cables, .int (((I kx_now_cables 2) &&& (r1 ^^^ (-1))) ||| ((1 : Int32) <<< (r2 &&& 31)))] (I, L, ab_RR, n, nc, ns) (.inl none, (I5, L, ab_RR, n, nc, ns)) ∧ (((I5 kx_trialNet 4) ≤ (I5 kx_forest 4) → (res = (.inl (some (.int ((I5 kx_trialNet 3) - (I5 kx_forest 3)))), (I5, L, ab_RR, n, nc, ns)))) ∧ (¬ (I5 kx_trialNet 4) ≤ (I5 kx_forest 4) → (res = (.inl (some (.int (-1))), (I5, L, ab_RR, n, nc, ns))))))) ∧ (r2 = (-1) → (res = (.inl (some (.int (-1))), (I, L, ab_RR, n, nc, ns)))))) : ab_E w (d + 1) mt_K_aloneOf 0 [.ref kx, .int v1, .null, .null, .null] [] (I, L, ab_RR, n, nc, ns) res := by
  refine ab_aload_n (i := 0) d_K_aloneOf_0 rfl rfl ?_
  refine ab_getR (ci := 10) (k := 3) (j := kx_now) d_K_aloneOf_1 v_475 rfl (by decide) (by decide) rfl r_kx_3 ?_
  refine ab_getR (ci := 6) (k := 0) (j := kx_now_cables) d_K_aloneOf_4 v_294 rfl (by decide) (by decide) rfl r_kx_now_0 ?_
  refine ab_astore_n (i := 2) d_K_aloneOf_7 rfl (by decide) (Or.inr rfl) ?_
  refine ab_aload_n (i := 2) d_K_aloneOf_8 rfl rfl ?_
  refine ab_iload_n (i := 1) d_K_aloneOf_9 rfl rfl ?_
  obtain ⟨r1, hC, h⟩ := h
  refine ab_callV (me2 := mt_Cables_endingAt) (b := kx_now_cables) (as := [.int v1]) (st := []) (rv := (some (.int r1))) (M2 := (I, L, ab_RR, n, nc, ns)) d_K_aloneOf_10 ce_Cables_endingAt v_960 v_961 v_962 (by decide) rfl (Nat.le_of_ble_eq_true rfl) hC (Nat.le_refl _) (Nat.le_refl _) hc hs (fun j h9 => by cases h9) (fun _ _ => rfl) ?_
  show ab_E w (d + 1) mt_K_aloneOf 13 [.ref kx, .int v1, .ref kx_now_cables, .null, .null] [.int r1] (I, L, ab_RR, n, nc, ns) res
  refine ab_istore_n (i := 3) d_K_aloneOf_13 rfl (by decide) (Or.inr rfl) ?_
  refine ab_aload_n (i := 2) d_K_aloneOf_14 rfl rfl ?_
  refine ab_iload_n (i := 3) d_K_aloneOf_15 rfl rfl ?_
  refine ab_aload_n (i := 2) d_K_aloneOf_16 rfl rfl ?_
  refine ab_getI (ci := 1) (k := 2) d_K_aloneOf_17 v_202 rfl (by decide) (by decide) rfl ?_
  refine ab_iand d_K_aloneOf_20 ?_
  obtain ⟨r2, hC, h⟩ := h
  refine ab_callV (me2 := mt_Cables_cheapestOf) (b := kx_now_cables) (as := [.int (r1 &&& (I kx_now_cables 2))]) (st := []) (rv := (some (.int r2))) (M2 := (I, L, ab_RR, n, nc, ns)) d_K_aloneOf_21 ce_Cables_cheapestOf v_1132 v_1133 v_1134 (by decide) rfl (Nat.le_of_ble_eq_true rfl) hC (Nat.le_refl _) (Nat.le_refl _) hc hs (fun j h9 => by cases h9) (fun _ _ => rfl) ?_
  show ab_E w (d + 1) mt_K_aloneOf 24 [.ref kx, .int v1, .ref kx_now_cables, .int r1, .null] [.int r2] (I, L, ab_RR, n, nc, ns) res
  refine ab_istore (i := 4) d_K_aloneOf_24 (by decide) (Or.inr rfl) ?_
  refine ab_iload (i := 4) d_K_aloneOf_26 rfl ?_
  refine ab_iconst (v := (-1)) d_K_aloneOf_28 rfl ?_
  refine ab_icmp_ne (tgt := 34) d_K_aloneOf_29 (by decide) (fun c3 => ?_) (fun c3 => ?_)
  · have h := h.1 c3
    refine ab_aload_n (i := 0) d_K_aloneOf_34 rfl rfl ?_
    refine ab_getR (ci := 10) (k := 9) (j := kx_trialNet) d_K_aloneOf_35 v_481 rfl (by decide) (by decide) rfl r_kx_9 ?_
    refine ab_aload_n (i := 2) d_K_aloneOf_38 rfl rfl ?_
    refine ab_aload_n (i := 2) d_K_aloneOf_39 rfl rfl ?_
    refine ab_getI (ci := 1) (k := 2) d_K_aloneOf_40 v_202 rfl (by decide) (by decide) rfl ?_
    refine ab_iload_n (i := 3) d_K_aloneOf_43 rfl rfl ?_
    refine ab_iconst (v := (-1)) d_K_aloneOf_44 rfl ?_
    refine ab_ixor d_K_aloneOf_45 ?_
    refine ab_iand d_K_aloneOf_46 ?_
    refine ab_iconst (v := 1) d_K_aloneOf_47 rfl ?_
    refine ab_iload (i := 4) d_K_aloneOf_48 rfl ?_
    refine ab_ishl d_K_aloneOf_50 ?_
    refine ab_ior d_K_aloneOf_51 ?_
    obtain ⟨I5, hC, h⟩ := h
    refine ab_callV (me2 := mt_Forest_grow) (b := kx_trialNet) (as := [.ref kx_now_cables, .int (((I kx_now_cables 2) &&& (r1 ^^^ (-1))) ||| ((1 : Int32) <<< (r2 &&& 31)))]) (st := []) (rv := none) (M2 := (I5, L, ab_RR, n, nc, ns)) d_K_aloneOf_52 ce_Forest_grow v_440 v_441 v_442 (by decide) rfl (Nat.le_of_ble_eq_true rfl) hC (Nat.le_refl _) (Nat.le_refl _) hc hs (fun j h9 => by cases h9) (fun _ _ => rfl) ?_
    show ab_E w (d + 1) mt_K_aloneOf 55 [.ref kx, .int v1, .ref kx_now_cables, .int r1, .int r2] [] (I5, L, ab_RR, n, nc, ns) res
    refine ab_aload_n (i := 0) d_K_aloneOf_55 rfl rfl ?_
    refine ab_getR (ci := 10) (k := 9) (j := kx_trialNet) d_K_aloneOf_56 v_481 rfl (by decide) (by decide) rfl r_kx_9 ?_
    refine ab_getI (ci := 2) (k := 4) d_K_aloneOf_59 v_339 rfl (by decide) (by decide) rfl ?_
    refine ab_aload_n (i := 0) d_K_aloneOf_62 rfl rfl ?_
    refine ab_getR (ci := 10) (k := 6) (j := kx_forest) d_K_aloneOf_63 v_478 rfl (by decide) (by decide) rfl r_kx_6 ?_
    refine ab_getI (ci := 2) (k := 4) d_K_aloneOf_66 v_339 rfl (by decide) (by decide) rfl ?_
    refine ab_icmp_le (tgt := 76) d_K_aloneOf_69 (by decide) (fun c6 => ?_) (fun c6 => ?_)
    · have h := h.1 c6
      refine ab_aload_n (i := 0) d_K_aloneOf_76 rfl rfl ?_
      refine ab_getR (ci := 10) (k := 9) (j := kx_trialNet) d_K_aloneOf_77 v_481 rfl (by decide) (by decide) rfl r_kx_9 ?_
      refine ab_getI (ci := 2) (k := 3) d_K_aloneOf_80 v_337 rfl (by decide) (by decide) rfl ?_
      refine ab_aload_n (i := 0) d_K_aloneOf_83 rfl rfl ?_
      refine ab_getR (ci := 10) (k := 6) (j := kx_forest) d_K_aloneOf_84 v_478 rfl (by decide) (by decide) rfl r_kx_6 ?_
      refine ab_getI (ci := 2) (k := 3) d_K_aloneOf_87 v_337 rfl (by decide) (by decide) rfl ?_
      refine ab_isub d_K_aloneOf_90 ?_
      exact ab_iret (ty := .int) d_K_aloneOf_91 rfl rfl h
    · have h := h.2 c6
      refine ab_iconst (v := (-1)) d_K_aloneOf_72 rfl ?_
      refine ab_goto (tgt := 91) d_K_aloneOf_73 (by decide) ?_
      exact ab_iret (ty := .int) d_K_aloneOf_91 rfl rfl h
  · have h := h.2 c3
    refine ab_iconst (v := (-1)) d_K_aloneOf_32 rfl ?_
    exact ab_iret (ty := .int) d_K_aloneOf_33 rfl rfl h
theorem r_K_payOf_0 {w : ab_Wd} {d n nc ns : Nat} {I : Nat → Nat → Int32} {L : Nat → Nat → Int64} {res : ab_Re} (hT : w.1.stackTraces = false) (v1 : Int32) (hc : nc ≤ res.2.2.2.2.2.1) (hs : ns ≤ res.2.2.2.2.2.2)
    (h : ∃ (I2 : Nat → Nat → Int32), ab_C w d mt_Forest_grow [.ref kx_trialNet, .ref kx_now_cables, .int ((I kx_now_cables 2) &&& (v1 ^^^ (-1)))] (I, L, ab_RR, n, nc, ns) (.inl none, (I2, L, ab_RR, n, nc, ns)) ∧ (((I2 kx_trialNet 4) ≤ (I2 kx_forest 4) → (∃ (r4 : Int32), ab_C w d mt_Cables_pricesOf [.ref kx_now_cables, .int ((I2 kx_forest 2) &&& (v1 ^^^ (-1)))] (I2, L, ab_RR, n, nc, ns) (.inl (some (.int r4)), (I2, L, ab_RR, n, nc, ns)) ∧ res = (.inl (some (.int ((I2 kx_trialNet 3) - r4))), (I2, L, ab_RR, n, nc, ns)))) ∧ (¬ (I2 kx_trialNet 4) ≤ (I2 kx_forest 4) → (res = (.inl (some (.int (-1))), (I2, L, ab_RR, n, nc, ns)))))) : ab_E w (d + 1) mt_K_payOf 0 [.ref kx, .int v1] [] (I, L, ab_RR, n, nc, ns) res := by
  refine ab_aload_n (i := 0) d_K_payOf_0 rfl rfl ?_
  refine ab_getR (ci := 10) (k := 9) (j := kx_trialNet) d_K_payOf_1 v_481 rfl (by decide) (by decide) rfl r_kx_9 ?_
  refine ab_aload_n (i := 0) d_K_payOf_4 rfl rfl ?_
  refine ab_getR (ci := 10) (k := 3) (j := kx_now) d_K_payOf_5 v_475 rfl (by decide) (by decide) rfl r_kx_3 ?_
  refine ab_getR (ci := 6) (k := 0) (j := kx_now_cables) d_K_payOf_8 v_294 rfl (by decide) (by decide) rfl r_kx_now_0 ?_
  refine ab_aload_n (i := 0) d_K_payOf_11 rfl rfl ?_
  refine ab_getR (ci := 10) (k := 3) (j := kx_now) d_K_payOf_12 v_475 rfl (by decide) (by decide) rfl r_kx_3 ?_
  refine ab_getR (ci := 6) (k := 0) (j := kx_now_cables) d_K_payOf_15 v_294 rfl (by decide) (by decide) rfl r_kx_now_0 ?_
  refine ab_getI (ci := 1) (k := 2) d_K_payOf_18 v_202 rfl (by decide) (by decide) rfl ?_
  refine ab_iload_n (i := 1) d_K_payOf_21 rfl rfl ?_
  refine ab_iconst (v := (-1)) d_K_payOf_22 rfl ?_
  refine ab_ixor d_K_payOf_23 ?_
  refine ab_iand d_K_payOf_24 ?_
  obtain ⟨I2, hC, h⟩ := h
  refine ab_callV (me2 := mt_Forest_grow) (b := kx_trialNet) (as := [.ref kx_now_cables, .int ((I kx_now_cables 2) &&& (v1 ^^^ (-1)))]) (st := []) (rv := none) (M2 := (I2, L, ab_RR, n, nc, ns)) d_K_payOf_25 ce_Forest_grow v_440 v_441 v_442 (by decide) rfl (Nat.le_of_ble_eq_true rfl) hC (Nat.le_refl _) (Nat.le_refl _) hc hs (fun j h9 => by cases h9) (fun _ _ => rfl) ?_
  show ab_E w (d + 1) mt_K_payOf 28 [.ref kx, .int v1] [] (I2, L, ab_RR, n, nc, ns) res
  refine ab_aload_n (i := 0) d_K_payOf_28 rfl rfl ?_
  refine ab_getR (ci := 10) (k := 9) (j := kx_trialNet) d_K_payOf_29 v_481 rfl (by decide) (by decide) rfl r_kx_9 ?_
  refine ab_getI (ci := 2) (k := 4) d_K_payOf_32 v_339 rfl (by decide) (by decide) rfl ?_
  refine ab_aload_n (i := 0) d_K_payOf_35 rfl rfl ?_
  refine ab_getR (ci := 10) (k := 6) (j := kx_forest) d_K_payOf_36 v_478 rfl (by decide) (by decide) rfl r_kx_6 ?_
  refine ab_getI (ci := 2) (k := 4) d_K_payOf_39 v_339 rfl (by decide) (by decide) rfl ?_
  refine ab_icmp_le (tgt := 47) d_K_payOf_42 (by decide) (fun c3 => ?_) (fun c3 => ?_)
  · have h := h.1 c3
    refine ab_aload_n (i := 0) d_K_payOf_47 rfl rfl ?_
    refine ab_getR (ci := 10) (k := 9) (j := kx_trialNet) d_K_payOf_48 v_481 rfl (by decide) (by decide) rfl r_kx_9 ?_
    refine ab_getI (ci := 2) (k := 3) d_K_payOf_51 v_337 rfl (by decide) (by decide) rfl ?_
    refine ab_aload_n (i := 0) d_K_payOf_54 rfl rfl ?_
    refine ab_getR (ci := 10) (k := 3) (j := kx_now) d_K_payOf_55 v_475 rfl (by decide) (by decide) rfl r_kx_3 ?_
    refine ab_getR (ci := 6) (k := 0) (j := kx_now_cables) d_K_payOf_58 v_294 rfl (by decide) (by decide) rfl r_kx_now_0 ?_
    refine ab_aload_n (i := 0) d_K_payOf_61 rfl rfl ?_
    refine ab_getR (ci := 10) (k := 6) (j := kx_forest) d_K_payOf_62 v_478 rfl (by decide) (by decide) rfl r_kx_6 ?_
    refine ab_getI (ci := 2) (k := 2) d_K_payOf_65 v_335 rfl (by decide) (by decide) rfl ?_
    refine ab_iload_n (i := 1) d_K_payOf_68 rfl rfl ?_
    refine ab_iconst (v := (-1)) d_K_payOf_69 rfl ?_
    refine ab_ixor d_K_payOf_70 ?_
    refine ab_iand d_K_payOf_71 ?_
    obtain ⟨r4, hC, h⟩ := h
    refine ab_callV (me2 := mt_Cables_pricesOf) (b := kx_now_cables) (as := [.int ((I2 kx_forest 2) &&& (v1 ^^^ (-1)))]) (st := [.int (I2 kx_trialNet 3)]) (rv := (some (.int r4))) (M2 := (I2, L, ab_RR, n, nc, ns)) d_K_payOf_72 ce_Cables_pricesOf v_1179 v_1180 v_1181 (by decide) rfl (Nat.le_of_ble_eq_true rfl) hC (Nat.le_refl _) (Nat.le_refl _) hc hs (fun j h9 => by cases h9) (fun _ _ => rfl) ?_
    show ab_E w (d + 1) mt_K_payOf 75 [.ref kx, .int v1] [.int r4, .int (I2 kx_trialNet 3)] (I2, L, ab_RR, n, nc, ns) res
    refine ab_isub d_K_payOf_75 ?_
    exact ab_iret (ty := .int) d_K_payOf_76 rfl rfl h
  · have h := h.2 c3
    refine ab_iconst (v := (-1)) d_K_payOf_45 rfl ?_
    exact ab_iret (ty := .int) d_K_payOf_46 rfl rfl h
theorem cx_K_nextSeed_0 {w : ab_Wd} {d n nc ns : Nat} {I : Nat → Nat → Int32} {L : Nat → Nat → Int64} (v0 : Int32) (hT : w.1.stackTraces = false)  : ab_C w d mt_K_nextSeed [.int v0] (I, L, ab_RR, n, nc, ns) (.inl (some (.int ((v0 * 1103515245) + 12345))), (I, L, ab_RR, n, nc, ns)) := by
  refine ab_C_of (by decide) rfl (Nat.le_of_ble_eq_true rfl) hT ?_
  have hc := Nat.le_refl nc
  have hs := Nat.le_refl ns
  refine ab_iload_n (i := 0) d_K_nextSeed_0 rfl rfl ?_
  refine ab_ldcw (v := 1103515245) d_K_nextSeed_1 v_1353 ?_
  refine ab_imul d_K_nextSeed_4 ?_
  refine ab_sipush (v := 12345) d_K_nextSeed_5 rfl ?_
  refine ab_iadd d_K_nextSeed_8 ?_
  exact ab_iret (ty := .int) d_K_nextSeed_9 rfl rfl rfl
theorem cx_K_draw_0 {w : ab_Wd} {d n nc ns : Nat} {I : Nat → Nat → Int32} {L : Nat → Nat → Int64} (v0 : Int32) (v1 : Int32) (hT : w.1.stackTraces = false) (e1 : 1 ≤ v1) (e2 : (¬ v1 = 0)) : ab_C w d mt_K_draw [.int v0, .int v1] (I, L, ab_RR, n, nc, ns) (.inl (some (.int (((ab_ushr v0 16) &&& 32767) - ((ab_ushr v0 16) &&& 32767) / v1 * v1))), (I, L, ab_RR, n, nc, ns)) := by
  refine ab_C_of (by decide) rfl (Nat.le_of_ble_eq_true rfl) hT ?_
  have hc := Nat.le_refl nc
  have hs := Nat.le_refl ns
  refine ab_iload_n (i := 1) d_K_draw_0 rfl rfl ?_
  refine ab_iconst (v := 1) d_K_draw_1 rfl ?_
  refine ab_icmp_ge (tgt := 9) d_K_draw_2 (by decide) (fun _ => ?_) (fun c9 => absurd e1 c9)
  refine ab_iload_n (i := 0) d_K_draw_9 rfl rfl ?_
  refine ab_bipush (v := 16) d_K_draw_10 rfl ?_
  refine ab_iushr (v := (ab_ushr v0 16)) d_K_draw_12 rfl ?_
  refine ab_sipush (v := 32767) d_K_draw_13 rfl ?_
  refine ab_iand d_K_draw_16 ?_
  refine ab_iload_n (i := 1) d_K_draw_17 rfl rfl ?_
  refine ab_irem d_K_draw_18 e2 ?_
  exact ab_iret (ty := .int) d_K_draw_19 rfl rfl rfl
theorem cx_K_draw_1 {w : ab_Wd} {d n nc ns : Nat} {I : Nat → Nat → Int32} {L : Nat → Nat → Int64} (v0 : Int32) (v1 : Int32) (hT : w.1.stackTraces = false) (e1 : ¬ 1 ≤ v1) : ab_C w d mt_K_draw [.int v0, .int v1] (I, L, ab_RR, n, nc, ns) (.inl (some (.int 0)), (I, L, ab_RR, n, nc, ns)) := by
  refine ab_C_of (by decide) rfl (Nat.le_of_ble_eq_true rfl) hT ?_
  have hc := Nat.le_refl nc
  have hs := Nat.le_refl ns
  refine ab_iload_n (i := 1) d_K_draw_0 rfl rfl ?_
  refine ab_iconst (v := 1) d_K_draw_1 rfl ?_
  refine ab_icmp_ge (tgt := 9) d_K_draw_2 (by decide) (fun c9 => absurd c9 e1) (fun _ => ?_)
  refine ab_iconst (v := 0) d_K_draw_5 rfl ?_
  refine ab_goto (tgt := 19) d_K_draw_6 (by decide) ?_
  exact ab_iret (ty := .int) d_K_draw_19 rfl rfl rfl
theorem r_K_passYear_0 {w : ab_Wd} {d n nc ns : Nat} {I : Nat → Nat → Int32} {L : Nat → Nat → Int64} {res : ab_Re} (hT : w.1.stackTraces = false) (v1 : Int32) (hc : nc ≤ res.2.2.2.2.2.1) (hs : ns ≤ res.2.2.2.2.2.2)
    (h : ((¬ (I kx_trial 1) = 0 → ((1 ≤ (I kx_trial 1) → ((¬ (I kx_trial 1) = 0) ∧ (((((ab_ushr ((v1 * 1103515245) + 12345) 16) &&& 32767) - ((ab_ushr ((v1 * 1103515245) + 12345) 16) &&& 32767) / 8 * 8) ≤ 5 → ((vp_in (((ab_ushr ((((v1 * 1103515245) + 12345) * 1103515245) + 12345) 16) &&& 32767) - ((ab_ushr ((((v1 * 1103515245) + 12345) * 1103515245) + 12345) 16) &&& 32767) / (I kx_trial 1) * (I kx_trial 1)) 24) ∧ ∃ (I14 : Nat → Nat → Int32), ab_C w (d + 1) mt_Cables_sort [.ref kx_trial] ((ab_up I kx_trial_price (((ab_ushr ((((v1 * 1103515245) + 12345) * 1103515245) + 12345) 16) &&& 32767) - ((ab_ushr ((((v1 * 1103515245) + 12345) * 1103515245) + 12345) 16) &&& 32767) / (I kx_trial 1) * (I kx_trial 1)).toNatClampNeg (ab_max32 1 (ab_min32 999 (((I kx_trial_price (((ab_ushr ((((v1 * 1103515245) + 12345) * 1103515245) + 12345) 16) &&& 32767) - ((ab_ushr ((((v1 * 1103515245) + 12345) * 1103515245) + 12345) 16) &&& 32767) / (I kx_trial 1) * (I kx_trial 1)).toNatClampNeg) + (((ab_ushr ((((((v1 * 1103515245) + 12345) * 1103515245) + 12345) * 1103515245) + 12345) 16) &&& 32767) - ((ab_ushr ((((((v1 * 1103515245) + 12345) * 1103515245) + 12345) * 1103515245) + 12345) 16) &&& 32767) / 41 * 41)) - 20)))), L, ab_RR, n, nc, ns) (.inl none, (I14, L, ab_RR, n, nc, ns)) ∧ ∃ (I16 : Nat → Nat → Int32), ab_C w (d + 1) mt_Forest_grow [.ref kx_trialNet, .ref kx_trial, .int (I14 kx_trial 2)] (I14, L, ab_RR, n, nc, ns) (.inl none, (I16, L, ab_RR, n, nc, ns)) ∧ res = (.inl (some (.int ((((((v1 * 1103515245) + 12345) * 1103515245) + 12345) * 1103515245) + 12345))), (I16, L, ab_RR, n, nc, ns)))) ∧ (¬ (((ab_ushr ((v1 * 1103515245) + 12345) 16) &&& 32767) - ((ab_ushr ((v1 * 1103515245) + 12345) 16) &&& 32767) / 8 * 8) ≤ 5 → (∃ (I18 : Nat → Nat → Int32), ab_C w (d + 1) mt_Forest_grow [.ref kx_trialNet, .ref kx_trial, .int ((I kx_trial 2) ^^^ ((1 : Int32) <<< ((((ab_ushr ((((v1 * 1103515245) + 12345) * 1103515245) + 12345) 16) &&& 32767) - ((ab_ushr ((((v1 * 1103515245) + 12345) * 1103515245) + 12345) 16) &&& 32767) / (I kx_trial 1) * (I kx_trial 1)) &&& 31)))] ((ab_up I kx_trial 2 ((I kx_trial 2) ^^^ ((1 : Int32) <<< ((((ab_ushr ((((v1 * 1103515245) + 12345) * 1103515245) + 12345) 16) &&& 32767) - ((ab_ushr ((((v1 * 1103515245) + 12345) * 1103515245) + 12345) 16) &&& 32767) / (I kx_trial 1) * (I kx_trial 1)) &&& 31)))), L, ab_RR, n, nc, ns) (.inl none, (I18, L, ab_RR, n, nc, ns)) ∧ res = (.inl (some (.int ((((v1 * 1103515245) + 12345) * 1103515245) + 12345))), (I18, L, ab_RR, n, nc, ns))))))) ∧ (¬ 1 ≤ (I kx_trial 1) → (((((ab_ushr ((v1 * 1103515245) + 12345) 16) &&& 32767) - ((ab_ushr ((v1 * 1103515245) + 12345) 16) &&& 32767) / 8 * 8) ≤ 5 → (∃ (I24 : Nat → Nat → Int32), ab_C w (d + 1) mt_Cables_sort [.ref kx_trial] ((ab_up I kx_trial_price 0 (ab_max32 1 (ab_min32 999 (((I kx_trial_price 0) + (((ab_ushr ((((((v1 * 1103515245) + 12345) * 1103515245) + 12345) * 1103515245) + 12345) 16) &&& 32767) - ((ab_ushr ((((((v1 * 1103515245) + 12345) * 1103515245) + 12345) * 1103515245) + 12345) 16) &&& 32767) / 41 * 41)) - 20)))), L, ab_RR, n, nc, ns) (.inl none, (I24, L, ab_RR, n, nc, ns)) ∧ ∃ (I26 : Nat → Nat → Int32), ab_C w (d + 1) mt_Forest_grow [.ref kx_trialNet, .ref kx_trial, .int (I24 kx_trial 2)] (I24, L, ab_RR, n, nc, ns) (.inl none, (I26, L, ab_RR, n, nc, ns)) ∧ res = (.inl (some (.int ((((((v1 * 1103515245) + 12345) * 1103515245) + 12345) * 1103515245) + 12345))), (I26, L, ab_RR, n, nc, ns)))) ∧ (¬ (((ab_ushr ((v1 * 1103515245) + 12345) 16) &&& 32767) - ((ab_ushr ((v1 * 1103515245) + 12345) 16) &&& 32767) / 8 * 8) ≤ 5 → (∃ (I28 : Nat → Nat → Int32), ab_C w (d + 1) mt_Forest_grow [.ref kx_trialNet, .ref kx_trial, .int ((I kx_trial 2) ^^^ ((1 : Int32) <<< ((0 : Int32) &&& 31)))] ((ab_up I kx_trial 2 ((I kx_trial 2) ^^^ ((1 : Int32) <<< ((0 : Int32) &&& 31)))), L, ab_RR, n, nc, ns) (.inl none, (I28, L, ab_RR, n, nc, ns)) ∧ res = (.inl (some (.int ((((v1 * 1103515245) + 12345) * 1103515245) + 12345))), (I28, L, ab_RR, n, nc, ns)))))))) ∧ ((I kx_trial 1) = 0 → (res = (.inl (some (.int ((v1 * 1103515245) + 12345))), (I, L, ab_RR, n, nc, ns)))))) : ab_E w (d + 2) mt_K_passYear 0 [.ref kx, .int v1, .null, .null, .null] [] (I, L, ab_RR, n, nc, ns) res := by
  refine ab_iload_n (i := 1) d_K_passYear_0 rfl rfl ?_
  refine ab_callS (me2 := mt_K_nextSeed) (as := [.int v1]) (st := []) (rv := (some (.int ((v1 * 1103515245) + 12345)))) (M2 := (I, L, ab_RR, n, nc, ns)) d_K_passYear_1 ce_K_nextSeed ⟨v_1351, Or.inl v_1350⟩ (Nat.le_of_ble_eq_true rfl) (cx_K_nextSeed_0 v1 hT) (Nat.le_refl _) (Nat.le_refl _) hc hs (fun j h9 => by cases h9) (fun _ _ => rfl) ?_
  show ab_E w (d + 2) mt_K_passYear 4 [.ref kx, .int v1, .null, .null, .null] [.int ((v1 * 1103515245) + 12345)] (I, L, ab_RR, n, nc, ns) res
  refine ab_istore_n (i := 2) d_K_passYear_4 rfl (by decide) (Or.inr rfl) ?_
  refine ab_iload_n (i := 2) d_K_passYear_5 rfl rfl ?_
  refine ab_bipush (v := 8) d_K_passYear_6 rfl ?_
  refine ab_callS (me2 := mt_K_draw) (as := [.int ((v1 * 1103515245) + 12345), .int 8]) (st := []) (rv := (some (.int (((ab_ushr ((v1 * 1103515245) + 12345) 16) &&& 32767) - ((ab_ushr ((v1 * 1103515245) + 12345) 16) &&& 32767) / 8 * 8)))) (M2 := (I, L, ab_RR, n, nc, ns)) d_K_passYear_8 ce_K_draw ⟨v_1355, Or.inl v_1354⟩ (Nat.le_of_ble_eq_true rfl) (cx_K_draw_0 ((v1 * 1103515245) + 12345) 8 hT (show 1 ≤ (8 : Int32) from by decide) (show (¬ 8 = 0) from by decide)) (Nat.le_refl _) (Nat.le_refl _) hc hs (fun j h9 => by cases h9) (fun _ _ => rfl) ?_
  show ab_E w (d + 2) mt_K_passYear 11 [.ref kx, .int v1, .int ((v1 * 1103515245) + 12345), .null, .null] [.int (((ab_ushr ((v1 * 1103515245) + 12345) 16) &&& 32767) - ((ab_ushr ((v1 * 1103515245) + 12345) 16) &&& 32767) / 8 * 8)] (I, L, ab_RR, n, nc, ns) res
  refine ab_istore_n (i := 3) d_K_passYear_11 rfl (by decide) (Or.inr rfl) ?_
  refine ab_aload_n (i := 0) d_K_passYear_12 rfl rfl ?_
  refine ab_getR (ci := 10) (k := 8) (j := kx_trial) d_K_passYear_13 v_480 rfl (by decide) (by decide) rfl r_kx_8 ?_
  refine ab_getI (ci := 1) (k := 1) d_K_passYear_16 v_199 rfl (by decide) (by decide) rfl ?_
  refine ab_if_ne (tgt := 24) d_K_passYear_19 (by decide) (fun c3 => ?_) (fun c3 => ?_)
  · have h := h.1 c3
    refine ab_iload_n (i := 2) d_K_passYear_24 rfl rfl ?_
    refine ab_callS (me2 := mt_K_nextSeed) (as := [.int ((v1 * 1103515245) + 12345)]) (st := []) (rv := (some (.int ((((v1 * 1103515245) + 12345) * 1103515245) + 12345)))) (M2 := (I, L, ab_RR, n, nc, ns)) d_K_passYear_25 ce_K_nextSeed ⟨v_1351, Or.inl v_1350⟩ (Nat.le_of_ble_eq_true rfl) (cx_K_nextSeed_0 ((v1 * 1103515245) + 12345) hT) (Nat.le_refl _) (Nat.le_refl _) hc hs (fun j h9 => by cases h9) (fun _ _ => rfl) ?_
    show ab_E w (d + 2) mt_K_passYear 28 [.ref kx, .int v1, .int ((v1 * 1103515245) + 12345), .int (((ab_ushr ((v1 * 1103515245) + 12345) 16) &&& 32767) - ((ab_ushr ((v1 * 1103515245) + 12345) 16) &&& 32767) / 8 * 8), .null] [.int ((((v1 * 1103515245) + 12345) * 1103515245) + 12345)] (I, L, ab_RR, n, nc, ns) res
    refine ab_istore_n (i := 2) d_K_passYear_28 rfl (by decide) (Or.inr rfl) ?_
    refine ab_iload_n (i := 2) d_K_passYear_29 rfl rfl ?_
    refine ab_aload_n (i := 0) d_K_passYear_30 rfl rfl ?_
    refine ab_getR (ci := 10) (k := 8) (j := kx_trial) d_K_passYear_31 v_480 rfl (by decide) (by decide) rfl r_kx_8 ?_
    refine ab_getI (ci := 1) (k := 1) d_K_passYear_34 v_199 rfl (by decide) (by decide) rfl ?_
    by_cases c6 : 1 ≤ (I kx_trial 1)
    · have h := h.1 c6
      have g7 := h.1; have h := h.2
      refine ab_callS (me2 := mt_K_draw) (as := [.int ((((v1 * 1103515245) + 12345) * 1103515245) + 12345), .int (I kx_trial 1)]) (st := []) (rv := (some (.int (((ab_ushr ((((v1 * 1103515245) + 12345) * 1103515245) + 12345) 16) &&& 32767) - ((ab_ushr ((((v1 * 1103515245) + 12345) * 1103515245) + 12345) 16) &&& 32767) / (I kx_trial 1) * (I kx_trial 1))))) (M2 := (I, L, ab_RR, n, nc, ns)) d_K_passYear_37 ce_K_draw ⟨v_1355, Or.inl v_1354⟩ (Nat.le_of_ble_eq_true rfl) (cx_K_draw_0 ((((v1 * 1103515245) + 12345) * 1103515245) + 12345) (I kx_trial 1) hT c6 g7) (Nat.le_refl _) (Nat.le_refl _) hc hs (fun j h9 => by cases h9) (fun _ _ => rfl) ?_
      show ab_E w (d + 2) mt_K_passYear 40 [.ref kx, .int v1, .int ((((v1 * 1103515245) + 12345) * 1103515245) + 12345), .int (((ab_ushr ((v1 * 1103515245) + 12345) 16) &&& 32767) - ((ab_ushr ((v1 * 1103515245) + 12345) 16) &&& 32767) / 8 * 8), .null] [.int (((ab_ushr ((((v1 * 1103515245) + 12345) * 1103515245) + 12345) 16) &&& 32767) - ((ab_ushr ((((v1 * 1103515245) + 12345) * 1103515245) + 12345) 16) &&& 32767) / (I kx_trial 1) * (I kx_trial 1))] (I, L, ab_RR, n, nc, ns) res
      refine ab_istore (i := 4) d_K_passYear_40 (by decide) (Or.inr rfl) ?_
      refine ab_iload_n (i := 3) d_K_passYear_42 rfl rfl ?_
      refine ab_iconst (v := 5) d_K_passYear_43 rfl ?_
      refine ab_icmp_le (tgt := 66) d_K_passYear_44 (by decide) (fun c8 => ?_) (fun c8 => ?_)
      · have h := h.1 c8
        refine ab_iload_n (i := 2) d_K_passYear_66 rfl rfl ?_
        refine ab_callS (me2 := mt_K_nextSeed) (as := [.int ((((v1 * 1103515245) + 12345) * 1103515245) + 12345)]) (st := []) (rv := (some (.int ((((((v1 * 1103515245) + 12345) * 1103515245) + 12345) * 1103515245) + 12345)))) (M2 := (I, L, ab_RR, n, nc, ns)) d_K_passYear_67 ce_K_nextSeed ⟨v_1351, Or.inl v_1350⟩ (Nat.le_of_ble_eq_true rfl) (cx_K_nextSeed_0 ((((v1 * 1103515245) + 12345) * 1103515245) + 12345) hT) (Nat.le_refl _) (Nat.le_refl _) hc hs (fun j h9 => by cases h9) (fun _ _ => rfl) ?_
        show ab_E w (d + 2) mt_K_passYear 70 [.ref kx, .int v1, .int ((((v1 * 1103515245) + 12345) * 1103515245) + 12345), .int (((ab_ushr ((v1 * 1103515245) + 12345) 16) &&& 32767) - ((ab_ushr ((v1 * 1103515245) + 12345) 16) &&& 32767) / 8 * 8), .int (((ab_ushr ((((v1 * 1103515245) + 12345) * 1103515245) + 12345) 16) &&& 32767) - ((ab_ushr ((((v1 * 1103515245) + 12345) * 1103515245) + 12345) 16) &&& 32767) / (I kx_trial 1) * (I kx_trial 1))] [.int ((((((v1 * 1103515245) + 12345) * 1103515245) + 12345) * 1103515245) + 12345)] (I, L, ab_RR, n, nc, ns) res
        refine ab_istore_n (i := 2) d_K_passYear_70 rfl (by decide) (Or.inr rfl) ?_
        refine ab_aload_n (i := 0) d_K_passYear_71 rfl rfl ?_
        refine ab_getR (ci := 10) (k := 8) (j := kx_trial) d_K_passYear_72 v_480 rfl (by decide) (by decide) rfl r_kx_8 ?_
        refine ab_getR (ci := 1) (k := 5) (j := kx_trial_price) d_K_passYear_75 v_224 rfl (by decide) (by decide) rfl r_kx_trial_5 ?_
        refine ab_iload (i := 4) d_K_passYear_78 rfl ?_
        refine ab_aload_n (i := 0) d_K_passYear_80 rfl rfl ?_
        refine ab_getR (ci := 10) (k := 8) (j := kx_trial) d_K_passYear_81 v_480 rfl (by decide) (by decide) rfl r_kx_8 ?_
        refine ab_getR (ci := 1) (k := 5) (j := kx_trial_price) d_K_passYear_84 v_224 rfl (by decide) (by decide) rfl r_kx_trial_5 ?_
        refine ab_iload (i := 4) d_K_passYear_87 rfl ?_
        have g10 := h.1; have h := h.2
        refine ab_iald d_K_passYear_89 rfl rfl g10 ?_
        refine ab_iload_n (i := 2) d_K_passYear_90 rfl rfl ?_
        refine ab_bipush (v := 41) d_K_passYear_91 rfl ?_
        refine ab_callS (me2 := mt_K_draw) (as := [.int ((((((v1 * 1103515245) + 12345) * 1103515245) + 12345) * 1103515245) + 12345), .int 41]) (st := [.int (I kx_trial_price (((ab_ushr ((((v1 * 1103515245) + 12345) * 1103515245) + 12345) 16) &&& 32767) - ((ab_ushr ((((v1 * 1103515245) + 12345) * 1103515245) + 12345) 16) &&& 32767) / (I kx_trial 1) * (I kx_trial 1)).toNatClampNeg), .int (((ab_ushr ((((v1 * 1103515245) + 12345) * 1103515245) + 12345) 16) &&& 32767) - ((ab_ushr ((((v1 * 1103515245) + 12345) * 1103515245) + 12345) 16) &&& 32767) / (I kx_trial 1) * (I kx_trial 1)), .ref kx_trial_price]) (rv := (some (.int (((ab_ushr ((((((v1 * 1103515245) + 12345) * 1103515245) + 12345) * 1103515245) + 12345) 16) &&& 32767) - ((ab_ushr ((((((v1 * 1103515245) + 12345) * 1103515245) + 12345) * 1103515245) + 12345) 16) &&& 32767) / 41 * 41)))) (M2 := (I, L, ab_RR, n, nc, ns)) d_K_passYear_93 ce_K_draw ⟨v_1355, Or.inl v_1354⟩ (Nat.le_of_ble_eq_true rfl) (cx_K_draw_0 ((((((v1 * 1103515245) + 12345) * 1103515245) + 12345) * 1103515245) + 12345) 41 hT (show 1 ≤ (41 : Int32) from by decide) (show (¬ 41 = 0) from by decide)) (Nat.le_refl _) (Nat.le_refl _) hc hs (fun j h9 => by cases h9) (fun _ _ => rfl) ?_
        show ab_E w (d + 2) mt_K_passYear 96 [.ref kx, .int v1, .int ((((((v1 * 1103515245) + 12345) * 1103515245) + 12345) * 1103515245) + 12345), .int (((ab_ushr ((v1 * 1103515245) + 12345) 16) &&& 32767) - ((ab_ushr ((v1 * 1103515245) + 12345) 16) &&& 32767) / 8 * 8), .int (((ab_ushr ((((v1 * 1103515245) + 12345) * 1103515245) + 12345) 16) &&& 32767) - ((ab_ushr ((((v1 * 1103515245) + 12345) * 1103515245) + 12345) 16) &&& 32767) / (I kx_trial 1) * (I kx_trial 1))] [.int (((ab_ushr ((((((v1 * 1103515245) + 12345) * 1103515245) + 12345) * 1103515245) + 12345) 16) &&& 32767) - ((ab_ushr ((((((v1 * 1103515245) + 12345) * 1103515245) + 12345) * 1103515245) + 12345) 16) &&& 32767) / 41 * 41), .int (I kx_trial_price (((ab_ushr ((((v1 * 1103515245) + 12345) * 1103515245) + 12345) 16) &&& 32767) - ((ab_ushr ((((v1 * 1103515245) + 12345) * 1103515245) + 12345) 16) &&& 32767) / (I kx_trial 1) * (I kx_trial 1)).toNatClampNeg), .int (((ab_ushr ((((v1 * 1103515245) + 12345) * 1103515245) + 12345) 16) &&& 32767) - ((ab_ushr ((((v1 * 1103515245) + 12345) * 1103515245) + 12345) 16) &&& 32767) / (I kx_trial 1) * (I kx_trial 1)), .ref kx_trial_price] (I, L, ab_RR, n, nc, ns) res
        refine ab_iadd d_K_passYear_96 ?_
        refine ab_bipush (v := 20) d_K_passYear_97 rfl ?_
        refine ab_isub d_K_passYear_99 ?_
        refine ab_callS (me2 := mt_K_asPrice) (as := [.int (((I kx_trial_price (((ab_ushr ((((v1 * 1103515245) + 12345) * 1103515245) + 12345) 16) &&& 32767) - ((ab_ushr ((((v1 * 1103515245) + 12345) * 1103515245) + 12345) 16) &&& 32767) / (I kx_trial 1) * (I kx_trial 1)).toNatClampNeg) + (((ab_ushr ((((((v1 * 1103515245) + 12345) * 1103515245) + 12345) * 1103515245) + 12345) 16) &&& 32767) - ((ab_ushr ((((((v1 * 1103515245) + 12345) * 1103515245) + 12345) * 1103515245) + 12345) 16) &&& 32767) / 41 * 41)) - 20)]) (st := [.int (((ab_ushr ((((v1 * 1103515245) + 12345) * 1103515245) + 12345) 16) &&& 32767) - ((ab_ushr ((((v1 * 1103515245) + 12345) * 1103515245) + 12345) 16) &&& 32767) / (I kx_trial 1) * (I kx_trial 1)), .ref kx_trial_price]) (rv := (some (.int (ab_max32 1 (ab_min32 999 (((I kx_trial_price (((ab_ushr ((((v1 * 1103515245) + 12345) * 1103515245) + 12345) 16) &&& 32767) - ((ab_ushr ((((v1 * 1103515245) + 12345) * 1103515245) + 12345) 16) &&& 32767) / (I kx_trial 1) * (I kx_trial 1)).toNatClampNeg) + (((ab_ushr ((((((v1 * 1103515245) + 12345) * 1103515245) + 12345) * 1103515245) + 12345) 16) &&& 32767) - ((ab_ushr ((((((v1 * 1103515245) + 12345) * 1103515245) + 12345) * 1103515245) + 12345) 16) &&& 32767) / 41 * 41)) - 20)))))) (M2 := (I, L, ab_RR, n, nc, ns)) d_K_passYear_100 ce_K_asPrice ⟨v_618, Or.inl v_617⟩ (Nat.le_of_ble_eq_true rfl) (cx_K_asPrice_0 (((I kx_trial_price (((ab_ushr ((((v1 * 1103515245) + 12345) * 1103515245) + 12345) 16) &&& 32767) - ((ab_ushr ((((v1 * 1103515245) + 12345) * 1103515245) + 12345) 16) &&& 32767) / (I kx_trial 1) * (I kx_trial 1)).toNatClampNeg) + (((ab_ushr ((((((v1 * 1103515245) + 12345) * 1103515245) + 12345) * 1103515245) + 12345) 16) &&& 32767) - ((ab_ushr ((((((v1 * 1103515245) + 12345) * 1103515245) + 12345) * 1103515245) + 12345) 16) &&& 32767) / 41 * 41)) - 20) hT) (Nat.le_refl _) (Nat.le_refl _) hc hs (fun j h9 => by cases h9) (fun _ _ => rfl) ?_
        show ab_E w (d + 2) mt_K_passYear 103 [.ref kx, .int v1, .int ((((((v1 * 1103515245) + 12345) * 1103515245) + 12345) * 1103515245) + 12345), .int (((ab_ushr ((v1 * 1103515245) + 12345) 16) &&& 32767) - ((ab_ushr ((v1 * 1103515245) + 12345) 16) &&& 32767) / 8 * 8), .int (((ab_ushr ((((v1 * 1103515245) + 12345) * 1103515245) + 12345) 16) &&& 32767) - ((ab_ushr ((((v1 * 1103515245) + 12345) * 1103515245) + 12345) 16) &&& 32767) / (I kx_trial 1) * (I kx_trial 1))] [.int (ab_max32 1 (ab_min32 999 (((I kx_trial_price (((ab_ushr ((((v1 * 1103515245) + 12345) * 1103515245) + 12345) 16) &&& 32767) - ((ab_ushr ((((v1 * 1103515245) + 12345) * 1103515245) + 12345) 16) &&& 32767) / (I kx_trial 1) * (I kx_trial 1)).toNatClampNeg) + (((ab_ushr ((((((v1 * 1103515245) + 12345) * 1103515245) + 12345) * 1103515245) + 12345) 16) &&& 32767) - ((ab_ushr ((((((v1 * 1103515245) + 12345) * 1103515245) + 12345) * 1103515245) + 12345) 16) &&& 32767) / 41 * 41)) - 20))), .int (((ab_ushr ((((v1 * 1103515245) + 12345) * 1103515245) + 12345) 16) &&& 32767) - ((ab_ushr ((((v1 * 1103515245) + 12345) * 1103515245) + 12345) 16) &&& 32767) / (I kx_trial 1) * (I kx_trial 1)), .ref kx_trial_price] (I, L, ab_RR, n, nc, ns) res
        refine ab_iast d_K_passYear_103 rfl rfl g10 ?_
        refine ab_aload_n (i := 0) d_K_passYear_104 rfl rfl ?_
        refine ab_getR (ci := 10) (k := 8) (j := kx_trial) d_K_passYear_105 v_480 rfl (by decide) (by decide) rfl r_kx_8 ?_
        obtain ⟨I14, hC, h⟩ := h
        refine ab_callV (me2 := mt_Cables_sort) (b := kx_trial) (as := []) (st := []) (rv := none) (M2 := (I14, L, ab_RR, n, nc, ns)) d_K_passYear_108 ce_Cables_sort v_591 v_592 v_593 (by decide) rfl (Nat.le_of_ble_eq_true rfl) hC (Nat.le_refl _) (Nat.le_refl _) hc hs (fun j h9 => by cases h9) (fun _ _ => rfl) ?_
        show ab_E w (d + 2) mt_K_passYear 111 [.ref kx, .int v1, .int ((((((v1 * 1103515245) + 12345) * 1103515245) + 12345) * 1103515245) + 12345), .int (((ab_ushr ((v1 * 1103515245) + 12345) 16) &&& 32767) - ((ab_ushr ((v1 * 1103515245) + 12345) 16) &&& 32767) / 8 * 8), .int (((ab_ushr ((((v1 * 1103515245) + 12345) * 1103515245) + 12345) 16) &&& 32767) - ((ab_ushr ((((v1 * 1103515245) + 12345) * 1103515245) + 12345) 16) &&& 32767) / (I kx_trial 1) * (I kx_trial 1))] [] (I14, L, ab_RR, n, nc, ns) res
        refine ab_aload_n (i := 0) d_K_passYear_111 rfl rfl ?_
        refine ab_getR (ci := 10) (k := 9) (j := kx_trialNet) d_K_passYear_112 v_481 rfl (by decide) (by decide) rfl r_kx_9 ?_
        refine ab_aload_n (i := 0) d_K_passYear_115 rfl rfl ?_
        refine ab_getR (ci := 10) (k := 8) (j := kx_trial) d_K_passYear_116 v_480 rfl (by decide) (by decide) rfl r_kx_8 ?_
        refine ab_aload_n (i := 0) d_K_passYear_119 rfl rfl ?_
        refine ab_getR (ci := 10) (k := 8) (j := kx_trial) d_K_passYear_120 v_480 rfl (by decide) (by decide) rfl r_kx_8 ?_
        refine ab_getI (ci := 1) (k := 2) d_K_passYear_123 v_202 rfl (by decide) (by decide) rfl ?_
        obtain ⟨I16, hC, h⟩ := h
        refine ab_callV (me2 := mt_Forest_grow) (b := kx_trialNet) (as := [.ref kx_trial, .int (I14 kx_trial 2)]) (st := []) (rv := none) (M2 := (I16, L, ab_RR, n, nc, ns)) d_K_passYear_126 ce_Forest_grow v_440 v_441 v_442 (by decide) rfl (Nat.le_of_ble_eq_true rfl) hC (Nat.le_refl _) (Nat.le_refl _) hc hs (fun j h9 => by cases h9) (fun _ _ => rfl) ?_
        show ab_E w (d + 2) mt_K_passYear 129 [.ref kx, .int v1, .int ((((((v1 * 1103515245) + 12345) * 1103515245) + 12345) * 1103515245) + 12345), .int (((ab_ushr ((v1 * 1103515245) + 12345) 16) &&& 32767) - ((ab_ushr ((v1 * 1103515245) + 12345) 16) &&& 32767) / 8 * 8), .int (((ab_ushr ((((v1 * 1103515245) + 12345) * 1103515245) + 12345) 16) &&& 32767) - ((ab_ushr ((((v1 * 1103515245) + 12345) * 1103515245) + 12345) 16) &&& 32767) / (I kx_trial 1) * (I kx_trial 1))] [] (I16, L, ab_RR, n, nc, ns) res
        refine ab_iload_n (i := 2) d_K_passYear_129 rfl rfl ?_
        exact ab_iret (ty := .int) d_K_passYear_130 rfl rfl h
      · have h := h.2 c8
        refine ab_aload_n (i := 0) d_K_passYear_47 rfl rfl ?_
        refine ab_getR (ci := 10) (k := 8) (j := kx_trial) d_K_passYear_48 v_480 rfl (by decide) (by decide) rfl r_kx_8 ?_
        refine ab_dupr d_K_passYear_51 ?_
        refine ab_getI (ci := 1) (k := 2) d_K_passYear_52 v_202 rfl (by decide) (by decide) rfl ?_
        refine ab_iconst (v := 1) d_K_passYear_55 rfl ?_
        refine ab_iload (i := 4) d_K_passYear_56 rfl ?_
        refine ab_ishl d_K_passYear_58 ?_
        refine ab_ixor d_K_passYear_59 ?_
        refine ab_putI (ci := 1) (k := 2) d_K_passYear_60 v_202 rfl (by decide) (by decide) rfl (Or.inl rfl) rfl rfl ?_
        refine ab_goto (tgt := 111) d_K_passYear_63 (by decide) ?_
        refine ab_aload_n (i := 0) d_K_passYear_111 rfl rfl ?_
        refine ab_getR (ci := 10) (k := 9) (j := kx_trialNet) d_K_passYear_112 v_481 rfl (by decide) (by decide) rfl r_kx_9 ?_
        refine ab_aload_n (i := 0) d_K_passYear_115 rfl rfl ?_
        refine ab_getR (ci := 10) (k := 8) (j := kx_trial) d_K_passYear_116 v_480 rfl (by decide) (by decide) rfl r_kx_8 ?_
        refine ab_aload_n (i := 0) d_K_passYear_119 rfl rfl ?_
        refine ab_getR (ci := 10) (k := 8) (j := kx_trial) d_K_passYear_120 v_480 rfl (by decide) (by decide) rfl r_kx_8 ?_
        refine ab_getI (ci := 1) (k := 2) d_K_passYear_123 v_202 rfl (by decide) (by decide) rfl ?_
        obtain ⟨I18, hC, h⟩ := h
        refine ab_callV (me2 := mt_Forest_grow) (b := kx_trialNet) (as := [.ref kx_trial, .int ((I kx_trial 2) ^^^ ((1 : Int32) <<< ((((ab_ushr ((((v1 * 1103515245) + 12345) * 1103515245) + 12345) 16) &&& 32767) - ((ab_ushr ((((v1 * 1103515245) + 12345) * 1103515245) + 12345) 16) &&& 32767) / (I kx_trial 1) * (I kx_trial 1)) &&& 31)))]) (st := []) (rv := none) (M2 := (I18, L, ab_RR, n, nc, ns)) d_K_passYear_126 ce_Forest_grow v_440 v_441 v_442 (by decide) rfl (Nat.le_of_ble_eq_true rfl) hC (Nat.le_refl _) (Nat.le_refl _) hc hs (fun j h9 => by cases h9) (fun _ _ => rfl) ?_
        show ab_E w (d + 2) mt_K_passYear 129 [.ref kx, .int v1, .int ((((v1 * 1103515245) + 12345) * 1103515245) + 12345), .int (((ab_ushr ((v1 * 1103515245) + 12345) 16) &&& 32767) - ((ab_ushr ((v1 * 1103515245) + 12345) 16) &&& 32767) / 8 * 8), .int (((ab_ushr ((((v1 * 1103515245) + 12345) * 1103515245) + 12345) 16) &&& 32767) - ((ab_ushr ((((v1 * 1103515245) + 12345) * 1103515245) + 12345) 16) &&& 32767) / (I kx_trial 1) * (I kx_trial 1))] [] (I18, L, ab_RR, n, nc, ns) res
        refine ab_iload_n (i := 2) d_K_passYear_129 rfl rfl ?_
        exact ab_iret (ty := .int) d_K_passYear_130 rfl rfl h
    · have h := h.2 c6
      refine ab_callS (me2 := mt_K_draw) (as := [.int ((((v1 * 1103515245) + 12345) * 1103515245) + 12345), .int (I kx_trial 1)]) (st := []) (rv := (some (.int 0))) (M2 := (I, L, ab_RR, n, nc, ns)) d_K_passYear_37 ce_K_draw ⟨v_1355, Or.inl v_1354⟩ (Nat.le_of_ble_eq_true rfl) (cx_K_draw_1 ((((v1 * 1103515245) + 12345) * 1103515245) + 12345) (I kx_trial 1) hT c6) (Nat.le_refl _) (Nat.le_refl _) hc hs (fun j h9 => by cases h9) (fun _ _ => rfl) ?_
      show ab_E w (d + 2) mt_K_passYear 40 [.ref kx, .int v1, .int ((((v1 * 1103515245) + 12345) * 1103515245) + 12345), .int (((ab_ushr ((v1 * 1103515245) + 12345) 16) &&& 32767) - ((ab_ushr ((v1 * 1103515245) + 12345) 16) &&& 32767) / 8 * 8), .null] [.int 0] (I, L, ab_RR, n, nc, ns) res
      refine ab_istore (i := 4) d_K_passYear_40 (by decide) (Or.inr rfl) ?_
      refine ab_iload_n (i := 3) d_K_passYear_42 rfl rfl ?_
      refine ab_iconst (v := 5) d_K_passYear_43 rfl ?_
      refine ab_icmp_le (tgt := 66) d_K_passYear_44 (by decide) (fun c19 => ?_) (fun c19 => ?_)
      · have h := h.1 c19
        refine ab_iload_n (i := 2) d_K_passYear_66 rfl rfl ?_
        refine ab_callS (me2 := mt_K_nextSeed) (as := [.int ((((v1 * 1103515245) + 12345) * 1103515245) + 12345)]) (st := []) (rv := (some (.int ((((((v1 * 1103515245) + 12345) * 1103515245) + 12345) * 1103515245) + 12345)))) (M2 := (I, L, ab_RR, n, nc, ns)) d_K_passYear_67 ce_K_nextSeed ⟨v_1351, Or.inl v_1350⟩ (Nat.le_of_ble_eq_true rfl) (cx_K_nextSeed_0 ((((v1 * 1103515245) + 12345) * 1103515245) + 12345) hT) (Nat.le_refl _) (Nat.le_refl _) hc hs (fun j h9 => by cases h9) (fun _ _ => rfl) ?_
        show ab_E w (d + 2) mt_K_passYear 70 [.ref kx, .int v1, .int ((((v1 * 1103515245) + 12345) * 1103515245) + 12345), .int (((ab_ushr ((v1 * 1103515245) + 12345) 16) &&& 32767) - ((ab_ushr ((v1 * 1103515245) + 12345) 16) &&& 32767) / 8 * 8), .int 0] [.int ((((((v1 * 1103515245) + 12345) * 1103515245) + 12345) * 1103515245) + 12345)] (I, L, ab_RR, n, nc, ns) res
        refine ab_istore_n (i := 2) d_K_passYear_70 rfl (by decide) (Or.inr rfl) ?_
        refine ab_aload_n (i := 0) d_K_passYear_71 rfl rfl ?_
        refine ab_getR (ci := 10) (k := 8) (j := kx_trial) d_K_passYear_72 v_480 rfl (by decide) (by decide) rfl r_kx_8 ?_
        refine ab_getR (ci := 1) (k := 5) (j := kx_trial_price) d_K_passYear_75 v_224 rfl (by decide) (by decide) rfl r_kx_trial_5 ?_
        refine ab_iload (i := 4) d_K_passYear_78 rfl ?_
        refine ab_aload_n (i := 0) d_K_passYear_80 rfl rfl ?_
        refine ab_getR (ci := 10) (k := 8) (j := kx_trial) d_K_passYear_81 v_480 rfl (by decide) (by decide) rfl r_kx_8 ?_
        refine ab_getR (ci := 1) (k := 5) (j := kx_trial_price) d_K_passYear_84 v_224 rfl (by decide) (by decide) rfl r_kx_trial_5 ?_
        refine ab_iload (i := 4) d_K_passYear_87 rfl ?_
        refine ab_iald d_K_passYear_89 rfl rfl (by unfold vp_in; decide) ?_
        refine ab_iload_n (i := 2) d_K_passYear_90 rfl rfl ?_
        refine ab_bipush (v := 41) d_K_passYear_91 rfl ?_
        refine ab_callS (me2 := mt_K_draw) (as := [.int ((((((v1 * 1103515245) + 12345) * 1103515245) + 12345) * 1103515245) + 12345), .int 41]) (st := [.int (I kx_trial_price 0), .int 0, .ref kx_trial_price]) (rv := (some (.int (((ab_ushr ((((((v1 * 1103515245) + 12345) * 1103515245) + 12345) * 1103515245) + 12345) 16) &&& 32767) - ((ab_ushr ((((((v1 * 1103515245) + 12345) * 1103515245) + 12345) * 1103515245) + 12345) 16) &&& 32767) / 41 * 41)))) (M2 := (I, L, ab_RR, n, nc, ns)) d_K_passYear_93 ce_K_draw ⟨v_1355, Or.inl v_1354⟩ (Nat.le_of_ble_eq_true rfl) (cx_K_draw_0 ((((((v1 * 1103515245) + 12345) * 1103515245) + 12345) * 1103515245) + 12345) 41 hT (show 1 ≤ (41 : Int32) from by decide) (show (¬ 41 = 0) from by decide)) (Nat.le_refl _) (Nat.le_refl _) hc hs (fun j h9 => by cases h9) (fun _ _ => rfl) ?_
        show ab_E w (d + 2) mt_K_passYear 96 [.ref kx, .int v1, .int ((((((v1 * 1103515245) + 12345) * 1103515245) + 12345) * 1103515245) + 12345), .int (((ab_ushr ((v1 * 1103515245) + 12345) 16) &&& 32767) - ((ab_ushr ((v1 * 1103515245) + 12345) 16) &&& 32767) / 8 * 8), .int 0] [.int (((ab_ushr ((((((v1 * 1103515245) + 12345) * 1103515245) + 12345) * 1103515245) + 12345) 16) &&& 32767) - ((ab_ushr ((((((v1 * 1103515245) + 12345) * 1103515245) + 12345) * 1103515245) + 12345) 16) &&& 32767) / 41 * 41), .int (I kx_trial_price 0), .int 0, .ref kx_trial_price] (I, L, ab_RR, n, nc, ns) res
        refine ab_iadd d_K_passYear_96 ?_
        refine ab_bipush (v := 20) d_K_passYear_97 rfl ?_
        refine ab_isub d_K_passYear_99 ?_
        refine ab_callS (me2 := mt_K_asPrice) (as := [.int (((I kx_trial_price 0) + (((ab_ushr ((((((v1 * 1103515245) + 12345) * 1103515245) + 12345) * 1103515245) + 12345) 16) &&& 32767) - ((ab_ushr ((((((v1 * 1103515245) + 12345) * 1103515245) + 12345) * 1103515245) + 12345) 16) &&& 32767) / 41 * 41)) - 20)]) (st := [.int 0, .ref kx_trial_price]) (rv := (some (.int (ab_max32 1 (ab_min32 999 (((I kx_trial_price 0) + (((ab_ushr ((((((v1 * 1103515245) + 12345) * 1103515245) + 12345) * 1103515245) + 12345) 16) &&& 32767) - ((ab_ushr ((((((v1 * 1103515245) + 12345) * 1103515245) + 12345) * 1103515245) + 12345) 16) &&& 32767) / 41 * 41)) - 20)))))) (M2 := (I, L, ab_RR, n, nc, ns)) d_K_passYear_100 ce_K_asPrice ⟨v_618, Or.inl v_617⟩ (Nat.le_of_ble_eq_true rfl) (cx_K_asPrice_0 (((I kx_trial_price 0) + (((ab_ushr ((((((v1 * 1103515245) + 12345) * 1103515245) + 12345) * 1103515245) + 12345) 16) &&& 32767) - ((ab_ushr ((((((v1 * 1103515245) + 12345) * 1103515245) + 12345) * 1103515245) + 12345) 16) &&& 32767) / 41 * 41)) - 20) hT) (Nat.le_refl _) (Nat.le_refl _) hc hs (fun j h9 => by cases h9) (fun _ _ => rfl) ?_
        show ab_E w (d + 2) mt_K_passYear 103 [.ref kx, .int v1, .int ((((((v1 * 1103515245) + 12345) * 1103515245) + 12345) * 1103515245) + 12345), .int (((ab_ushr ((v1 * 1103515245) + 12345) 16) &&& 32767) - ((ab_ushr ((v1 * 1103515245) + 12345) 16) &&& 32767) / 8 * 8), .int 0] [.int (ab_max32 1 (ab_min32 999 (((I kx_trial_price 0) + (((ab_ushr ((((((v1 * 1103515245) + 12345) * 1103515245) + 12345) * 1103515245) + 12345) 16) &&& 32767) - ((ab_ushr ((((((v1 * 1103515245) + 12345) * 1103515245) + 12345) * 1103515245) + 12345) 16) &&& 32767) / 41 * 41)) - 20))), .int 0, .ref kx_trial_price] (I, L, ab_RR, n, nc, ns) res
        refine ab_iast d_K_passYear_103 rfl rfl (by unfold vp_in; decide) ?_
        refine ab_aload_n (i := 0) d_K_passYear_104 rfl rfl ?_
        refine ab_getR (ci := 10) (k := 8) (j := kx_trial) d_K_passYear_105 v_480 rfl (by decide) (by decide) rfl r_kx_8 ?_
        obtain ⟨I24, hC, h⟩ := h
        refine ab_callV (me2 := mt_Cables_sort) (b := kx_trial) (as := []) (st := []) (rv := none) (M2 := (I24, L, ab_RR, n, nc, ns)) d_K_passYear_108 ce_Cables_sort v_591 v_592 v_593 (by decide) rfl (Nat.le_of_ble_eq_true rfl) hC (Nat.le_refl _) (Nat.le_refl _) hc hs (fun j h9 => by cases h9) (fun _ _ => rfl) ?_
        show ab_E w (d + 2) mt_K_passYear 111 [.ref kx, .int v1, .int ((((((v1 * 1103515245) + 12345) * 1103515245) + 12345) * 1103515245) + 12345), .int (((ab_ushr ((v1 * 1103515245) + 12345) 16) &&& 32767) - ((ab_ushr ((v1 * 1103515245) + 12345) 16) &&& 32767) / 8 * 8), .int 0] [] (I24, L, ab_RR, n, nc, ns) res
        refine ab_aload_n (i := 0) d_K_passYear_111 rfl rfl ?_
        refine ab_getR (ci := 10) (k := 9) (j := kx_trialNet) d_K_passYear_112 v_481 rfl (by decide) (by decide) rfl r_kx_9 ?_
        refine ab_aload_n (i := 0) d_K_passYear_115 rfl rfl ?_
        refine ab_getR (ci := 10) (k := 8) (j := kx_trial) d_K_passYear_116 v_480 rfl (by decide) (by decide) rfl r_kx_8 ?_
        refine ab_aload_n (i := 0) d_K_passYear_119 rfl rfl ?_
        refine ab_getR (ci := 10) (k := 8) (j := kx_trial) d_K_passYear_120 v_480 rfl (by decide) (by decide) rfl r_kx_8 ?_
        refine ab_getI (ci := 1) (k := 2) d_K_passYear_123 v_202 rfl (by decide) (by decide) rfl ?_
        obtain ⟨I26, hC, h⟩ := h
        refine ab_callV (me2 := mt_Forest_grow) (b := kx_trialNet) (as := [.ref kx_trial, .int (I24 kx_trial 2)]) (st := []) (rv := none) (M2 := (I26, L, ab_RR, n, nc, ns)) d_K_passYear_126 ce_Forest_grow v_440 v_441 v_442 (by decide) rfl (Nat.le_of_ble_eq_true rfl) hC (Nat.le_refl _) (Nat.le_refl _) hc hs (fun j h9 => by cases h9) (fun _ _ => rfl) ?_
        show ab_E w (d + 2) mt_K_passYear 129 [.ref kx, .int v1, .int ((((((v1 * 1103515245) + 12345) * 1103515245) + 12345) * 1103515245) + 12345), .int (((ab_ushr ((v1 * 1103515245) + 12345) 16) &&& 32767) - ((ab_ushr ((v1 * 1103515245) + 12345) 16) &&& 32767) / 8 * 8), .int 0] [] (I26, L, ab_RR, n, nc, ns) res
        refine ab_iload_n (i := 2) d_K_passYear_129 rfl rfl ?_
        exact ab_iret (ty := .int) d_K_passYear_130 rfl rfl h
      · have h := h.2 c19
        refine ab_aload_n (i := 0) d_K_passYear_47 rfl rfl ?_
        refine ab_getR (ci := 10) (k := 8) (j := kx_trial) d_K_passYear_48 v_480 rfl (by decide) (by decide) rfl r_kx_8 ?_
        refine ab_dupr d_K_passYear_51 ?_
        refine ab_getI (ci := 1) (k := 2) d_K_passYear_52 v_202 rfl (by decide) (by decide) rfl ?_
        refine ab_iconst (v := 1) d_K_passYear_55 rfl ?_
        refine ab_iload (i := 4) d_K_passYear_56 rfl ?_
        refine ab_ishl d_K_passYear_58 ?_
        refine ab_ixor d_K_passYear_59 ?_
        refine ab_putI (ci := 1) (k := 2) d_K_passYear_60 v_202 rfl (by decide) (by decide) rfl (Or.inl rfl) rfl rfl ?_
        refine ab_goto (tgt := 111) d_K_passYear_63 (by decide) ?_
        refine ab_aload_n (i := 0) d_K_passYear_111 rfl rfl ?_
        refine ab_getR (ci := 10) (k := 9) (j := kx_trialNet) d_K_passYear_112 v_481 rfl (by decide) (by decide) rfl r_kx_9 ?_
        refine ab_aload_n (i := 0) d_K_passYear_115 rfl rfl ?_
        refine ab_getR (ci := 10) (k := 8) (j := kx_trial) d_K_passYear_116 v_480 rfl (by decide) (by decide) rfl r_kx_8 ?_
        refine ab_aload_n (i := 0) d_K_passYear_119 rfl rfl ?_
        refine ab_getR (ci := 10) (k := 8) (j := kx_trial) d_K_passYear_120 v_480 rfl (by decide) (by decide) rfl r_kx_8 ?_
        refine ab_getI (ci := 1) (k := 2) d_K_passYear_123 v_202 rfl (by decide) (by decide) rfl ?_
        obtain ⟨I28, hC, h⟩ := h
        refine ab_callV (me2 := mt_Forest_grow) (b := kx_trialNet) (as := [.ref kx_trial, .int ((I kx_trial 2) ^^^ ((1 : Int32) <<< ((0 : Int32) &&& 31)))]) (st := []) (rv := none) (M2 := (I28, L, ab_RR, n, nc, ns)) d_K_passYear_126 ce_Forest_grow v_440 v_441 v_442 (by decide) rfl (Nat.le_of_ble_eq_true rfl) hC (Nat.le_refl _) (Nat.le_refl _) hc hs (fun j h9 => by cases h9) (fun _ _ => rfl) ?_
        show ab_E w (d + 2) mt_K_passYear 129 [.ref kx, .int v1, .int ((((v1 * 1103515245) + 12345) * 1103515245) + 12345), .int (((ab_ushr ((v1 * 1103515245) + 12345) 16) &&& 32767) - ((ab_ushr ((v1 * 1103515245) + 12345) 16) &&& 32767) / 8 * 8), .int 0] [] (I28, L, ab_RR, n, nc, ns) res
        refine ab_iload_n (i := 2) d_K_passYear_129 rfl rfl ?_
        exact ab_iret (ty := .int) d_K_passYear_130 rfl rfl h
  · have h := h.2 c3
    refine ab_iload_n (i := 2) d_K_passYear_22 rfl rfl ?_
    exact ab_iret (ty := .int) d_K_passYear_23 rfl rfl h
theorem cx_M_thrown_0 {w : ab_Wd} {d n nc ns : Nat} {I : Nat → Nat → Int32} {L : Nat → Nat → Int64}  (hT : w.1.stackTraces = false)  : ab_C w d mt_M_thrown [.ref mx] (I, L, ab_RR, n, nc, ns) (.inl (some (.int (I mx 1))), (I, L, ab_RR, n, nc, ns)) := by
  refine ab_C_of (by decide) rfl (Nat.le_of_ble_eq_true rfl) hT ?_
  have hc := Nat.le_refl nc
  have hs := Nat.le_refl ns
  refine ab_aload_n (i := 0) d_M_thrown_0 rfl rfl ?_
  refine ab_getI (ci := 11) (k := 1) d_M_thrown_1 v_1369 rfl (by decide) (by decide) rfl ?_
  exact ab_iret (ty := .int) d_M_thrown_4 rfl rfl rfl
theorem cx_M_fail_0 {w : ab_Wd} {d n nc ns : Nat} {I : Nat → Nat → Int32} {L : Nat → Nat → Int64} (v1 : Int32) (hT : w.1.stackTraces = false)  : ab_C w d mt_M_fail [.ref mx, .int v1] (I, L, ab_RR, n, nc, ns) (.inl (some (.int 0)), ((ab_up I mx 1 v1), L, ab_RR, n, nc, ns)) := by
  refine ab_C_of (by decide) rfl (Nat.le_of_ble_eq_true rfl) hT ?_
  have hc := Nat.le_refl nc
  have hs := Nat.le_refl ns
  refine ab_aload_n (i := 0) d_M_fail_0 rfl rfl ?_
  refine ab_iload_n (i := 1) d_M_fail_1 rfl rfl ?_
  refine ab_putI (ci := 11) (k := 1) d_M_fail_2 v_1369 rfl (by decide) (by decide) rfl (Or.inl rfl) rfl rfl ?_
  refine ab_iconst (v := 0) d_M_fail_5 rfl ?_
  exact ab_iret (ty := .int) d_M_fail_6 rfl rfl rfl
theorem r_M_feed_0 {w : ab_Wd} {d n nc ns : Nat} {I : Nat → Nat → Int32} {L : Nat → Nat → Int64} {res : ab_Re} (hT : w.1.stackTraces = false) (v1 : Int32) (v2 : Int32) (v3 : Int32) (v4 : Int32) (v5 : Int32) (hc : nc ≤ res.2.2.2.2.2.1) (hs : ns ≤ res.2.2.2.2.2.2)
    (h : ((((I mx 8) + 20) ≤ 700 → (ab_E w d mt_M_feed 23 [.ref mx, .int v1, .int v2, .int v3, .int v4, .int v5, .int 0, .null] [] ((ab_up I mx 1 0), L, ab_RR, n, nc, ns) res)) ∧ (¬ ((I mx 8) + 20) ≤ 700 → (res = (.inl (some (.int (-1))), ((ab_up I mx 1 0), L, ab_RR, n, nc, ns)))))) : ab_E w d mt_M_feed 0 [.ref mx, .int v1, .int v2, .int v3, .int v4, .int v5, .null, .null] [] (I, L, ab_RR, n, nc, ns) res := by
  refine ab_aload_n (i := 0) d_M_feed_0 rfl rfl ?_
  refine ab_iconst (v := 0) d_M_feed_1 rfl ?_
  refine ab_putI (ci := 11) (k := 1) d_M_feed_2 v_1369 rfl (by decide) (by decide) rfl (Or.inl rfl) rfl rfl ?_
  refine ab_aload_n (i := 0) d_M_feed_5 rfl rfl ?_
  refine ab_getI (ci := 11) (k := 8) d_M_feed_6 v_1376 rfl (by decide) (by decide) rfl ?_
  refine ab_bipush (v := 20) d_M_feed_9 rfl ?_
  refine ab_iadd d_M_feed_11 ?_
  refine ab_sipush (v := 700) d_M_feed_12 rfl ?_
  refine ab_icmp_le (tgt := 20) d_M_feed_15 (by decide) (fun c1 => ?_) (fun c1 => ?_)
  · have h := h.1 c1
    refine ab_iconst (v := 0) d_M_feed_20 rfl ?_
    refine ab_istore (i := 6) d_M_feed_21 (by decide) (Or.inr rfl) ?_
    exact h
  · have h := h.2 c1
    refine ab_iconst (v := (-1)) d_M_feed_18 rfl ?_
    exact ab_iret (ty := .int) d_M_feed_19 rfl rfl h
theorem r_M_feed_23 {w : ab_Wd} {d n nc ns : Nat} {I : Nat → Nat → Int32} {L : Nat → Nat → Int64} {res : ab_Re} (hT : w.1.stackTraces = false) (v1 : Int32) (v2 : Int32) (v3 : Int32) (v4 : Int32) (v5 : Int32) (v6 : Int32) (hc : nc ≤ res.2.2.2.2.2.1) (hs : ns ≤ res.2.2.2.2.2.2)
    (h : ((20 ≤ v6 → (res = (.inl (some (.int (I mx 8))), (I, L, ab_RR, n, nc, ns)))) ∧ (¬ 20 ≤ v6 → ((4 ≤ v6 → ((8 ≤ v6 → ((12 ≤ v6 → ((16 ≤ v6 → ((vp_in (I mx 8) 700) ∧ ab_E w d mt_M_feed 23 [.ref mx, .int v1, .int v2, .int v3, .int v4, .int v5, .int (v6 + 1), .null] [] ((ab_up (ab_up I mx_tape (I mx 8).toNatClampNeg ((v5 >>> ((24 - (8 * (v6 - v6 / 4 * 4))) &&& 31)) &&& 255)) mx 8 ((I mx 8) + 1)), L, ab_RR, n, nc, ns) res)) ∧ (¬ 16 ≤ v6 → ((vp_in (I mx 8) 700) ∧ ab_E w d mt_M_feed 23 [.ref mx, .int v1, .int v2, .int v3, .int v4, .int v5, .int (v6 + 1), .null] [] ((ab_up (ab_up I mx_tape (I mx 8).toNatClampNeg ((v4 >>> ((24 - (8 * (v6 - v6 / 4 * 4))) &&& 31)) &&& 255)) mx 8 ((I mx 8) + 1)), L, ab_RR, n, nc, ns) res)))) ∧ (¬ 12 ≤ v6 → ((vp_in (I mx 8) 700) ∧ ab_E w d mt_M_feed 23 [.ref mx, .int v1, .int v2, .int v3, .int v4, .int v5, .int (v6 + 1), .null] [] ((ab_up (ab_up I mx_tape (I mx 8).toNatClampNeg ((v3 >>> ((24 - (8 * (v6 - v6 / 4 * 4))) &&& 31)) &&& 255)) mx 8 ((I mx 8) + 1)), L, ab_RR, n, nc, ns) res)))) ∧ (¬ 8 ≤ v6 → ((vp_in (I mx 8) 700) ∧ ab_E w d mt_M_feed 23 [.ref mx, .int v1, .int v2, .int v3, .int v4, .int v5, .int (v6 + 1), .null] [] ((ab_up (ab_up I mx_tape (I mx 8).toNatClampNeg ((v2 >>> ((24 - (8 * (v6 - v6 / 4 * 4))) &&& 31)) &&& 255)) mx 8 ((I mx 8) + 1)), L, ab_RR, n, nc, ns) res)))) ∧ (¬ 4 ≤ v6 → ((vp_in (I mx 8) 700) ∧ ab_E w d mt_M_feed 23 [.ref mx, .int v1, .int v2, .int v3, .int v4, .int v5, .int (v6 + 1), .null] [] ((ab_up (ab_up I mx_tape (I mx 8).toNatClampNeg ((v1 >>> ((24 - (8 * (v6 - v6 / 4 * 4))) &&& 31)) &&& 255)) mx 8 ((I mx 8) + 1)), L, ab_RR, n, nc, ns) res)))))) : ab_E w d mt_M_feed 23 [.ref mx, .int v1, .int v2, .int v3, .int v4, .int v5, .int v6, .null] [] (I, L, ab_RR, n, nc, ns) res := by
  refine ab_iload (i := 6) d_M_feed_23 rfl ?_
  refine ab_bipush (v := 20) d_M_feed_25 rfl ?_
  refine ab_icmp_ge (tgt := 120) d_M_feed_27 (by decide) (fun c1 => ?_) (fun c1 => ?_)
  · have h := h.1 c1
    refine ab_aload_n (i := 0) d_M_feed_120 rfl rfl ?_
    refine ab_getI (ci := 11) (k := 8) d_M_feed_121 v_1376 rfl (by decide) (by decide) rfl ?_
    exact ab_iret (ty := .int) d_M_feed_124 rfl rfl h
  · have h := h.2 c1
    refine ab_iload (i := 6) d_M_feed_30 rfl ?_
    refine ab_iconst (v := 4) d_M_feed_32 rfl ?_
    refine ab_icmp_ge (tgt := 40) d_M_feed_33 (by decide) (fun c2 => ?_) (fun c2 => ?_)
    · have h := h.1 c2
      refine ab_iload (i := 6) d_M_feed_40 rfl ?_
      refine ab_bipush (v := 8) d_M_feed_42 rfl ?_
      refine ab_icmp_ge (tgt := 51) d_M_feed_44 (by decide) (fun c3 => ?_) (fun c3 => ?_)
      · have h := h.1 c3
        refine ab_iload (i := 6) d_M_feed_51 rfl ?_
        refine ab_bipush (v := 12) d_M_feed_53 rfl ?_
        refine ab_icmp_ge (tgt := 62) d_M_feed_55 (by decide) (fun c4 => ?_) (fun c4 => ?_)
        · have h := h.1 c4
          refine ab_iload (i := 6) d_M_feed_62 rfl ?_
          refine ab_bipush (v := 16) d_M_feed_64 rfl ?_
          refine ab_icmp_ge (tgt := 74) d_M_feed_66 (by decide) (fun c5 => ?_) (fun c5 => ?_)
          · have h := h.1 c5
            refine ab_iload (i := 5) d_M_feed_74 rfl ?_
            refine ab_istore (i := 7) d_M_feed_76 (by decide) (Or.inr rfl) ?_
            refine ab_aload_n (i := 0) d_M_feed_78 rfl rfl ?_
            refine ab_getR (ci := 11) (k := 7) (j := mx_tape) d_M_feed_79 v_1375 rfl (by decide) (by decide) rfl r_mx_7 ?_
            refine ab_aload_n (i := 0) d_M_feed_82 rfl rfl ?_
            refine ab_getI (ci := 11) (k := 8) d_M_feed_83 v_1376 rfl (by decide) (by decide) rfl ?_
            refine ab_iload (i := 7) d_M_feed_86 rfl ?_
            refine ab_bipush (v := 24) d_M_feed_88 rfl ?_
            refine ab_bipush (v := 8) d_M_feed_90 rfl ?_
            refine ab_iload (i := 6) d_M_feed_92 rfl ?_
            refine ab_iconst (v := 4) d_M_feed_94 rfl ?_
            refine ab_irem d_M_feed_95 (by decide) ?_
            refine ab_imul d_M_feed_96 ?_
            refine ab_isub d_M_feed_97 ?_
            refine ab_ishr d_M_feed_98 ?_
            refine ab_sipush (v := 255) d_M_feed_99 rfl ?_
            refine ab_iand d_M_feed_102 ?_
            have g6 := h.1; have h := h.2
            refine ab_iast d_M_feed_103 rfl rfl g6 ?_
            refine ab_aload_n (i := 0) d_M_feed_104 rfl rfl ?_
            refine ab_dupr d_M_feed_105 ?_
            refine ab_getI (ci := 11) (k := 8) d_M_feed_106 v_1376 rfl (by decide) (by decide) rfl ?_
            refine ab_iconst (v := 1) d_M_feed_109 rfl ?_
            refine ab_iadd d_M_feed_110 ?_
            refine ab_putI (ci := 11) (k := 8) d_M_feed_111 v_1376 rfl (by decide) (by decide) rfl (Or.inl rfl) rfl rfl ?_
            refine ab_iinc (i := 6) (v := (v6 + 1)) d_M_feed_114 rfl rfl (by decide) (Or.inr rfl) ?_
            refine ab_goto (tgt := 23) d_M_feed_117 (by decide) ?_
            refine ab_drop 7 ?_
            exact h
          · have h := h.2 c5
            refine ab_iload (i := 4) d_M_feed_69 rfl ?_
            refine ab_goto (tgt := 76) d_M_feed_71 (by decide) ?_
            refine ab_istore (i := 7) d_M_feed_76 (by decide) (Or.inr rfl) ?_
            refine ab_aload_n (i := 0) d_M_feed_78 rfl rfl ?_
            refine ab_getR (ci := 11) (k := 7) (j := mx_tape) d_M_feed_79 v_1375 rfl (by decide) (by decide) rfl r_mx_7 ?_
            refine ab_aload_n (i := 0) d_M_feed_82 rfl rfl ?_
            refine ab_getI (ci := 11) (k := 8) d_M_feed_83 v_1376 rfl (by decide) (by decide) rfl ?_
            refine ab_iload (i := 7) d_M_feed_86 rfl ?_
            refine ab_bipush (v := 24) d_M_feed_88 rfl ?_
            refine ab_bipush (v := 8) d_M_feed_90 rfl ?_
            refine ab_iload (i := 6) d_M_feed_92 rfl ?_
            refine ab_iconst (v := 4) d_M_feed_94 rfl ?_
            refine ab_irem d_M_feed_95 (by decide) ?_
            refine ab_imul d_M_feed_96 ?_
            refine ab_isub d_M_feed_97 ?_
            refine ab_ishr d_M_feed_98 ?_
            refine ab_sipush (v := 255) d_M_feed_99 rfl ?_
            refine ab_iand d_M_feed_102 ?_
            have g7 := h.1; have h := h.2
            refine ab_iast d_M_feed_103 rfl rfl g7 ?_
            refine ab_aload_n (i := 0) d_M_feed_104 rfl rfl ?_
            refine ab_dupr d_M_feed_105 ?_
            refine ab_getI (ci := 11) (k := 8) d_M_feed_106 v_1376 rfl (by decide) (by decide) rfl ?_
            refine ab_iconst (v := 1) d_M_feed_109 rfl ?_
            refine ab_iadd d_M_feed_110 ?_
            refine ab_putI (ci := 11) (k := 8) d_M_feed_111 v_1376 rfl (by decide) (by decide) rfl (Or.inl rfl) rfl rfl ?_
            refine ab_iinc (i := 6) (v := (v6 + 1)) d_M_feed_114 rfl rfl (by decide) (Or.inr rfl) ?_
            refine ab_goto (tgt := 23) d_M_feed_117 (by decide) ?_
            refine ab_drop 7 ?_
            exact h
        · have h := h.2 c4
          refine ab_iload_n (i := 3) d_M_feed_58 rfl rfl ?_
          refine ab_goto (tgt := 76) d_M_feed_59 (by decide) ?_
          refine ab_istore (i := 7) d_M_feed_76 (by decide) (Or.inr rfl) ?_
          refine ab_aload_n (i := 0) d_M_feed_78 rfl rfl ?_
          refine ab_getR (ci := 11) (k := 7) (j := mx_tape) d_M_feed_79 v_1375 rfl (by decide) (by decide) rfl r_mx_7 ?_
          refine ab_aload_n (i := 0) d_M_feed_82 rfl rfl ?_
          refine ab_getI (ci := 11) (k := 8) d_M_feed_83 v_1376 rfl (by decide) (by decide) rfl ?_
          refine ab_iload (i := 7) d_M_feed_86 rfl ?_
          refine ab_bipush (v := 24) d_M_feed_88 rfl ?_
          refine ab_bipush (v := 8) d_M_feed_90 rfl ?_
          refine ab_iload (i := 6) d_M_feed_92 rfl ?_
          refine ab_iconst (v := 4) d_M_feed_94 rfl ?_
          refine ab_irem d_M_feed_95 (by decide) ?_
          refine ab_imul d_M_feed_96 ?_
          refine ab_isub d_M_feed_97 ?_
          refine ab_ishr d_M_feed_98 ?_
          refine ab_sipush (v := 255) d_M_feed_99 rfl ?_
          refine ab_iand d_M_feed_102 ?_
          have g8 := h.1; have h := h.2
          refine ab_iast d_M_feed_103 rfl rfl g8 ?_
          refine ab_aload_n (i := 0) d_M_feed_104 rfl rfl ?_
          refine ab_dupr d_M_feed_105 ?_
          refine ab_getI (ci := 11) (k := 8) d_M_feed_106 v_1376 rfl (by decide) (by decide) rfl ?_
          refine ab_iconst (v := 1) d_M_feed_109 rfl ?_
          refine ab_iadd d_M_feed_110 ?_
          refine ab_putI (ci := 11) (k := 8) d_M_feed_111 v_1376 rfl (by decide) (by decide) rfl (Or.inl rfl) rfl rfl ?_
          refine ab_iinc (i := 6) (v := (v6 + 1)) d_M_feed_114 rfl rfl (by decide) (Or.inr rfl) ?_
          refine ab_goto (tgt := 23) d_M_feed_117 (by decide) ?_
          refine ab_drop 7 ?_
          exact h
      · have h := h.2 c3
        refine ab_iload_n (i := 2) d_M_feed_47 rfl rfl ?_
        refine ab_goto (tgt := 76) d_M_feed_48 (by decide) ?_
        refine ab_istore (i := 7) d_M_feed_76 (by decide) (Or.inr rfl) ?_
        refine ab_aload_n (i := 0) d_M_feed_78 rfl rfl ?_
        refine ab_getR (ci := 11) (k := 7) (j := mx_tape) d_M_feed_79 v_1375 rfl (by decide) (by decide) rfl r_mx_7 ?_
        refine ab_aload_n (i := 0) d_M_feed_82 rfl rfl ?_
        refine ab_getI (ci := 11) (k := 8) d_M_feed_83 v_1376 rfl (by decide) (by decide) rfl ?_
        refine ab_iload (i := 7) d_M_feed_86 rfl ?_
        refine ab_bipush (v := 24) d_M_feed_88 rfl ?_
        refine ab_bipush (v := 8) d_M_feed_90 rfl ?_
        refine ab_iload (i := 6) d_M_feed_92 rfl ?_
        refine ab_iconst (v := 4) d_M_feed_94 rfl ?_
        refine ab_irem d_M_feed_95 (by decide) ?_
        refine ab_imul d_M_feed_96 ?_
        refine ab_isub d_M_feed_97 ?_
        refine ab_ishr d_M_feed_98 ?_
        refine ab_sipush (v := 255) d_M_feed_99 rfl ?_
        refine ab_iand d_M_feed_102 ?_
        have g9 := h.1; have h := h.2
        refine ab_iast d_M_feed_103 rfl rfl g9 ?_
        refine ab_aload_n (i := 0) d_M_feed_104 rfl rfl ?_
        refine ab_dupr d_M_feed_105 ?_
        refine ab_getI (ci := 11) (k := 8) d_M_feed_106 v_1376 rfl (by decide) (by decide) rfl ?_
        refine ab_iconst (v := 1) d_M_feed_109 rfl ?_
        refine ab_iadd d_M_feed_110 ?_
        refine ab_putI (ci := 11) (k := 8) d_M_feed_111 v_1376 rfl (by decide) (by decide) rfl (Or.inl rfl) rfl rfl ?_
        refine ab_iinc (i := 6) (v := (v6 + 1)) d_M_feed_114 rfl rfl (by decide) (Or.inr rfl) ?_
        refine ab_goto (tgt := 23) d_M_feed_117 (by decide) ?_
        refine ab_drop 7 ?_
        exact h
    · have h := h.2 c2
      refine ab_iload_n (i := 1) d_M_feed_36 rfl rfl ?_
      refine ab_goto (tgt := 76) d_M_feed_37 (by decide) ?_
      refine ab_istore (i := 7) d_M_feed_76 (by decide) (Or.inr rfl) ?_
      refine ab_aload_n (i := 0) d_M_feed_78 rfl rfl ?_
      refine ab_getR (ci := 11) (k := 7) (j := mx_tape) d_M_feed_79 v_1375 rfl (by decide) (by decide) rfl r_mx_7 ?_
      refine ab_aload_n (i := 0) d_M_feed_82 rfl rfl ?_
      refine ab_getI (ci := 11) (k := 8) d_M_feed_83 v_1376 rfl (by decide) (by decide) rfl ?_
      refine ab_iload (i := 7) d_M_feed_86 rfl ?_
      refine ab_bipush (v := 24) d_M_feed_88 rfl ?_
      refine ab_bipush (v := 8) d_M_feed_90 rfl ?_
      refine ab_iload (i := 6) d_M_feed_92 rfl ?_
      refine ab_iconst (v := 4) d_M_feed_94 rfl ?_
      refine ab_irem d_M_feed_95 (by decide) ?_
      refine ab_imul d_M_feed_96 ?_
      refine ab_isub d_M_feed_97 ?_
      refine ab_ishr d_M_feed_98 ?_
      refine ab_sipush (v := 255) d_M_feed_99 rfl ?_
      refine ab_iand d_M_feed_102 ?_
      have g10 := h.1; have h := h.2
      refine ab_iast d_M_feed_103 rfl rfl g10 ?_
      refine ab_aload_n (i := 0) d_M_feed_104 rfl rfl ?_
      refine ab_dupr d_M_feed_105 ?_
      refine ab_getI (ci := 11) (k := 8) d_M_feed_106 v_1376 rfl (by decide) (by decide) rfl ?_
      refine ab_iconst (v := 1) d_M_feed_109 rfl ?_
      refine ab_iadd d_M_feed_110 ?_
      refine ab_putI (ci := 11) (k := 8) d_M_feed_111 v_1376 rfl (by decide) (by decide) rfl (Or.inl rfl) rfl rfl ?_
      refine ab_iinc (i := 6) (v := (v6 + 1)) d_M_feed_114 rfl rfl (by decide) (Or.inr rfl) ?_
      refine ab_goto (tgt := 23) d_M_feed_117 (by decide) ?_
      refine ab_drop 7 ?_
      exact h
theorem cx_M_byteAt_0 {w : ab_Wd} {d n nc ns : Nat} {I : Nat → Nat → Int32} {L : Nat → Nat → Int64} (v1 : Int32) (hT : w.1.stackTraces = false) (e1 : (I mx 10) ≤ v1) : ab_C w d mt_M_byteAt [.ref mx, .int v1] (I, L, ab_RR, n, nc, ns) (.inl (some (.int (-1))), (I, L, ab_RR, n, nc, ns)) := by
  refine ab_C_of (by decide) rfl (Nat.le_of_ble_eq_true rfl) hT ?_
  have hc := Nat.le_refl nc
  have hs := Nat.le_refl ns
  refine ab_iload_n (i := 1) d_M_byteAt_0 rfl rfl ?_
  refine ab_aload_n (i := 0) d_M_byteAt_1 rfl rfl ?_
  refine ab_getI (ci := 11) (k := 10) d_M_byteAt_2 v_1378 rfl (by decide) (by decide) rfl ?_
  refine ab_icmp_ge (tgt := 17) d_M_byteAt_5 (by decide) (fun _ => ?_) (fun c9 => absurd e1 c9)
  refine ab_iconst (v := (-1)) d_M_byteAt_17 rfl ?_
  exact ab_iret (ty := .int) d_M_byteAt_18 rfl rfl rfl
theorem cx_M_byteAt_1 {w : ab_Wd} {d n nc ns : Nat} {I : Nat → Nat → Int32} {L : Nat → Nat → Int64} (v1 : Int32) (hT : w.1.stackTraces = false) (e1 : ¬ (I mx 10) ≤ v1) (e2 : (vp_in v1 700)) : ab_C w d mt_M_byteAt [.ref mx, .int v1] (I, L, ab_RR, n, nc, ns) (.inl (some (.int (I mx_tape v1.toNatClampNeg))), (I, L, ab_RR, n, nc, ns)) := by
  refine ab_C_of (by decide) rfl (Nat.le_of_ble_eq_true rfl) hT ?_
  have hc := Nat.le_refl nc
  have hs := Nat.le_refl ns
  refine ab_iload_n (i := 1) d_M_byteAt_0 rfl rfl ?_
  refine ab_aload_n (i := 0) d_M_byteAt_1 rfl rfl ?_
  refine ab_getI (ci := 11) (k := 10) d_M_byteAt_2 v_1378 rfl (by decide) (by decide) rfl ?_
  refine ab_icmp_ge (tgt := 17) d_M_byteAt_5 (by decide) (fun c9 => absurd c9 e1) (fun _ => ?_)
  refine ab_aload_n (i := 0) d_M_byteAt_8 rfl rfl ?_
  refine ab_getR (ci := 11) (k := 7) (j := mx_tape) d_M_byteAt_9 v_1375 rfl (by decide) (by decide) rfl r_mx_7 ?_
  refine ab_iload_n (i := 1) d_M_byteAt_12 rfl rfl ?_
  refine ab_iald d_M_byteAt_13 rfl rfl e2 ?_
  refine ab_goto (tgt := 18) d_M_byteAt_14 (by decide) ?_
  exact ab_iret (ty := .int) d_M_byteAt_18 rfl rfl rfl
