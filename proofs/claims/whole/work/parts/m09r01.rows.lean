theorem r_K_ring_0 {w : ab_Wd} {d n nc ns : Nat} {I : Nat → Nat → Int32} {L : Nat → Nat → Int64} {res : ab_Re} (hT : w.1.stackTraces = false) (v1 : Int32) (v2 : Int32) (h8 : 8 ≤ (d + 3)) (hc : nc ≤ res.2.2.2.2.2.1) (hs : ns ≤ res.2.2.2.2.2.2)
    (h : ((ab_C w (d + 2) mt_K_needCable [.ref kx, .int v1] (I, L, ab_RR, n, nc, ns) (.inl none, (I, L, ab_RR, n, nc, ns)) ∧ ((v2 < 0 → (res = (.inr "java/util/NoSuchElementException", (I, L, ab_RR, n, nc + 1, ns + 6)))) ∧ (¬ v2 < 0 → (((((I kx_now_cables 2) >>> (v1 &&& 31)) &&& 1) = 1 → (((((I kx_forest 2) >>> (v1 &&& 31)) &&& 1) = 1 → ((v2 < 0 → ((vp_in v1 24) ∧ (vp_in (((I kx_now_cables_first v1.toNatClampNeg) * 10) + (I kx_now_cables_second v1.toNatClampNeg)) 100) ∧ ab_E w (d + 3) mt_K_ring 68 [.ref kx, .int v1, .int v2, .int (I kx_now_cables_second v1.toNatClampNeg), .int (I kx_now_cables_first v1.toNatClampNeg), .int (I kx_ways_step (((I kx_now_cables_first v1.toNatClampNeg) * 10) + (I kx_now_cables_second v1.toNatClampNeg)).toNatClampNeg), .int 0] [] (I, L, ab_RR, n, nc, ns) res)) ∧ (¬ v2 < 0 → (res = (.inr "java/util/NoSuchElementException", (I, L, ab_RR, n, nc + 1, ns + 6)))))) ∧ (¬ (((I kx_forest 2) >>> (v1 &&& 31)) &&& 1) = 1 → ((vp_in v1 24) ∧ (vp_in (((I kx_now_cables_first v1.toNatClampNeg) * 10) + (I kx_now_cables_second v1.toNatClampNeg)) 100) ∧ ((v2 < (I kx_ways_hops (((I kx_now_cables_first v1.toNatClampNeg) * 10) + (I kx_now_cables_second v1.toNatClampNeg)).toNatClampNeg) → (ab_E w (d + 3) mt_K_ring 68 [.ref kx, .int v1, .int v2, .int (I kx_now_cables_second v1.toNatClampNeg), .int (I kx_now_cables_first v1.toNatClampNeg), .int (I kx_ways_step (((I kx_now_cables_first v1.toNatClampNeg) * 10) + (I kx_now_cables_second v1.toNatClampNeg)).toNatClampNeg), .int 0] [] (I, L, ab_RR, n, nc, ns) res)) ∧ (¬ v2 < (I kx_ways_hops (((I kx_now_cables_first v1.toNatClampNeg) * 10) + (I kx_now_cables_second v1.toNatClampNeg)).toNatClampNeg) → (res = (.inr "java/util/NoSuchElementException", (I, L, ab_RR, n, nc + 1, ns + 6))))))))) ∧ (¬ (((I kx_now_cables 2) >>> (v1 &&& 31)) &&& 1) = 1 → ((v2 < 0 → ((vp_in v1 24) ∧ (vp_in (((I kx_now_cables_first v1.toNatClampNeg) * 10) + (I kx_now_cables_second v1.toNatClampNeg)) 100) ∧ ab_E w (d + 3) mt_K_ring 68 [.ref kx, .int v1, .int v2, .int (I kx_now_cables_second v1.toNatClampNeg), .int (I kx_now_cables_first v1.toNatClampNeg), .int (I kx_ways_step (((I kx_now_cables_first v1.toNatClampNeg) * 10) + (I kx_now_cables_second v1.toNatClampNeg)).toNatClampNeg), .int 0] [] (I, L, ab_RR, n, nc, ns) res)) ∧ (¬ v2 < 0 → (res = (.inr "java/util/NoSuchElementException", (I, L, ab_RR, n, nc + 1, ns + 6)))))))))) ∨ (∃ E : String, ab_C w (d + 2) mt_K_needCable [.ref kx, .int v1] (I, L, ab_RR, n, nc, ns) (.inr E, (I, L, ab_RR, n, nc + 1, ns + 6)) ∧ res = (.inr E, (I, L, ab_RR, n, nc + 1, ns + 6))))) : ab_E w (d + 3) mt_K_ring 0 [.ref kx, .int v1, .int v2, .null, .null, .null, .null] [] (I, L, ab_RR, n, nc, ns) res := by
  refine ab_aload_n (i := 0) d_K_ring_0 rfl rfl ?_
  refine ab_iload_n (i := 1) d_K_ring_1 rfl rfl ?_
  rcases h with ⟨hC, h⟩ | ⟨E9, hC, h⟩
  · refine ab_callV (me2 := mt_K_needCable) (b := kx) (as := [.int v1]) (st := []) (rv := none) (M2 := (I, L, ab_RR, n, nc, ns)) d_K_ring_2 ce_K_needCable v_1071 v_1073 v_43 (by decide) rfl (Nat.le_of_ble_eq_true rfl) hC (Nat.le_refl _) (Nat.le_refl _) hc hs (fun j h9 => by cases h9) (fun _ _ => rfl) ?_
    show ab_E w (d + 3) mt_K_ring 5 [.ref kx, .int v1, .int v2, .null, .null, .null, .null] [] (I, L, ab_RR, n, nc, ns) res
    refine ab_iload_n (i := 2) d_K_ring_5 rfl rfl ?_
    refine ab_if_lt (tgt := 18) d_K_ring_6 (by decide) (fun c2 => ?_) (fun c2 => ?_)
    · have h := h.1 c2
      exact ab_throw (E := "java/util/NoSuchElementException") d_K_ring_18 d_K_ring_21 d_K_ring_22 d_K_ring_25 (by decide +kernel) rfl v_1049 v_163 x3_K_185 x4_K_185 h8 (Nat.le_of_ble_eq_true rfl) h
    · have h := h.2 c2
      refine ab_iload_n (i := 2) d_K_ring_9 rfl rfl ?_
      refine ab_aload_n (i := 0) d_K_ring_10 rfl rfl ?_
      refine ab_iload_n (i := 1) d_K_ring_11 rfl rfl ?_
      by_cases c4 : (((I kx_now_cables 2) >>> (v1 &&& 31)) &&& 1) = 1
      · have h := h.1 c4
        by_cases c5 : (((I kx_forest 2) >>> (v1 &&& 31)) &&& 1) = 1
        · have h := h.1 c5
          refine ab_callV (me2 := mt_K_ringSize) (b := kx) (as := [.int v1]) (st := [.int v2]) (rv := (some (.int 0))) (M2 := (I, L, ab_RR, n, nc, ns)) d_K_ring_12 ce_K_ringSize v_1075 v_1077 v_44 (by decide) rfl (Nat.le_of_ble_eq_true rfl) (cx_K_ringSize_2 v1 hT c4 (show ¬ (1 : Int32) = 0 from by decide) c5 (show ¬ (1 : Int32) = 0 from by decide) (show (0 : Int32) = 0 from by decide)) (Nat.le_refl _) (Nat.le_refl _) hc hs (fun j h9 => by cases h9) (fun _ _ => rfl) ?_
          show ab_E w (d + 3) mt_K_ring 15 [.ref kx, .int v1, .int v2, .null, .null, .null, .null] [.int 0, .int v2] (I, L, ab_RR, n, nc, ns) res
          refine ab_icmp_lt (tgt := 26) d_K_ring_15 (by decide) (fun c6 => ?_) (fun c6 => ?_)
          · have h := h.1 c6
            refine ab_aload_n (i := 0) d_K_ring_26 rfl rfl ?_
            refine ab_getR (ci := 10) (k := 3) (j := kx_now) d_K_ring_27 v_475 rfl (by decide) (by decide) rfl r_kx_3 ?_
            refine ab_getR (ci := 6) (k := 0) (j := kx_now_cables) d_K_ring_30 v_294 rfl (by decide) (by decide) rfl r_kx_now_0 ?_
            refine ab_getR (ci := 1) (k := 4) (j := kx_now_cables_second) d_K_ring_33 v_216 rfl (by decide) (by decide) rfl r_kx_now_cables_4 ?_
            refine ab_iload_n (i := 1) d_K_ring_36 rfl rfl ?_
            have g7 := h.1; have h := h.2
            refine ab_iald d_K_ring_37 rfl rfl g7 ?_
            refine ab_istore_n (i := 3) d_K_ring_38 rfl (by decide) (Or.inr rfl) ?_
            refine ab_aload_n (i := 0) d_K_ring_39 rfl rfl ?_
            refine ab_getR (ci := 10) (k := 3) (j := kx_now) d_K_ring_40 v_475 rfl (by decide) (by decide) rfl r_kx_3 ?_
            refine ab_getR (ci := 6) (k := 0) (j := kx_now_cables) d_K_ring_43 v_294 rfl (by decide) (by decide) rfl r_kx_now_0 ?_
            refine ab_getR (ci := 1) (k := 3) (j := kx_now_cables_first) d_K_ring_46 v_209 rfl (by decide) (by decide) rfl r_kx_now_cables_3 ?_
            refine ab_iload_n (i := 1) d_K_ring_49 rfl rfl ?_
            refine ab_iald d_K_ring_50 rfl rfl g7 ?_
            refine ab_istore (i := 4) d_K_ring_51 (by decide) (Or.inr rfl) ?_
            refine ab_aload_n (i := 0) d_K_ring_53 rfl rfl ?_
            refine ab_getR (ci := 10) (k := 7) (j := kx_ways) d_K_ring_54 v_479 rfl (by decide) (by decide) rfl r_kx_7 ?_
            refine ab_iload (i := 4) d_K_ring_57 rfl ?_
            refine ab_iload_n (i := 3) d_K_ring_59 rfl rfl ?_
            have g9 := h.1; have h := h.2
            refine ab_callV (me2 := mt_Ways_firstCable) (b := kx_ways) (as := [.int (I kx_now_cables_first v1.toNatClampNeg), .int (I kx_now_cables_second v1.toNatClampNeg)]) (st := []) (rv := (some (.int (I kx_ways_step (((I kx_now_cables_first v1.toNatClampNeg) * 10) + (I kx_now_cables_second v1.toNatClampNeg)).toNatClampNeg)))) (M2 := (I, L, ab_RR, n, nc, ns)) d_K_ring_60 ce_Ways_firstCable v_1004 v_1005 v_1006 (by decide) rfl (Nat.le_of_ble_eq_true rfl) (cx_Ways_firstCable_0 (I kx_now_cables_first v1.toNatClampNeg) (I kx_now_cables_second v1.toNatClampNeg) hT g9) (Nat.le_refl _) (Nat.le_refl _) hc hs (fun j h9 => by cases h9) (fun _ _ => rfl) ?_
            show ab_E w (d + 3) mt_K_ring 63 [.ref kx, .int v1, .int v2, .int (I kx_now_cables_second v1.toNatClampNeg), .int (I kx_now_cables_first v1.toNatClampNeg), .null, .null] [.int (I kx_ways_step (((I kx_now_cables_first v1.toNatClampNeg) * 10) + (I kx_now_cables_second v1.toNatClampNeg)).toNatClampNeg)] (I, L, ab_RR, n, nc, ns) res
            refine ab_istore (i := 5) d_K_ring_63 (by decide) (Or.inr rfl) ?_
            refine ab_iconst (v := 0) d_K_ring_65 rfl ?_
            refine ab_istore (i := 6) d_K_ring_66 (by decide) (Or.inr rfl) ?_
            exact h
          · have h := h.2 c6
            exact ab_throw (E := "java/util/NoSuchElementException") d_K_ring_18 d_K_ring_21 d_K_ring_22 d_K_ring_25 (by decide +kernel) rfl v_1049 v_163 x3_K_185 x4_K_185 h8 (Nat.le_of_ble_eq_true rfl) h
        · have h := h.2 c5
          have g10 := h.1; have h := h.2
          have g11 := h.1; have h := h.2
          refine ab_callV (me2 := mt_K_ringSize) (b := kx) (as := [.int v1]) (st := [.int v2]) (rv := (some (.int (I kx_ways_hops (((I kx_now_cables_first v1.toNatClampNeg) * 10) + (I kx_now_cables_second v1.toNatClampNeg)).toNatClampNeg)))) (M2 := (I, L, ab_RR, n, nc, ns)) d_K_ring_12 ce_K_ringSize v_1075 v_1077 v_44 (by decide) rfl (Nat.le_of_ble_eq_true rfl) (cx_K_ringSize_1 v1 hT c4 (show ¬ (1 : Int32) = 0 from by decide) c5 (show (0 : Int32) = 0 from by decide) (show ¬ (1 : Int32) = 0 from by decide) g10 g10 g11) (Nat.le_refl _) (Nat.le_refl _) hc hs (fun j h9 => by cases h9) (fun _ _ => rfl) ?_
          show ab_E w (d + 3) mt_K_ring 15 [.ref kx, .int v1, .int v2, .null, .null, .null, .null] [.int (I kx_ways_hops (((I kx_now_cables_first v1.toNatClampNeg) * 10) + (I kx_now_cables_second v1.toNatClampNeg)).toNatClampNeg), .int v2] (I, L, ab_RR, n, nc, ns) res
          refine ab_icmp_lt (tgt := 26) d_K_ring_15 (by decide) (fun c12 => ?_) (fun c12 => ?_)
          · have h := h.1 c12
            refine ab_aload_n (i := 0) d_K_ring_26 rfl rfl ?_
            refine ab_getR (ci := 10) (k := 3) (j := kx_now) d_K_ring_27 v_475 rfl (by decide) (by decide) rfl r_kx_3 ?_
            refine ab_getR (ci := 6) (k := 0) (j := kx_now_cables) d_K_ring_30 v_294 rfl (by decide) (by decide) rfl r_kx_now_0 ?_
            refine ab_getR (ci := 1) (k := 4) (j := kx_now_cables_second) d_K_ring_33 v_216 rfl (by decide) (by decide) rfl r_kx_now_cables_4 ?_
            refine ab_iload_n (i := 1) d_K_ring_36 rfl rfl ?_
            refine ab_iald d_K_ring_37 rfl rfl g10 ?_
            refine ab_istore_n (i := 3) d_K_ring_38 rfl (by decide) (Or.inr rfl) ?_
            refine ab_aload_n (i := 0) d_K_ring_39 rfl rfl ?_
            refine ab_getR (ci := 10) (k := 3) (j := kx_now) d_K_ring_40 v_475 rfl (by decide) (by decide) rfl r_kx_3 ?_
            refine ab_getR (ci := 6) (k := 0) (j := kx_now_cables) d_K_ring_43 v_294 rfl (by decide) (by decide) rfl r_kx_now_0 ?_
            refine ab_getR (ci := 1) (k := 3) (j := kx_now_cables_first) d_K_ring_46 v_209 rfl (by decide) (by decide) rfl r_kx_now_cables_3 ?_
            refine ab_iload_n (i := 1) d_K_ring_49 rfl rfl ?_
            refine ab_iald d_K_ring_50 rfl rfl g10 ?_
            refine ab_istore (i := 4) d_K_ring_51 (by decide) (Or.inr rfl) ?_
            refine ab_aload_n (i := 0) d_K_ring_53 rfl rfl ?_
            refine ab_getR (ci := 10) (k := 7) (j := kx_ways) d_K_ring_54 v_479 rfl (by decide) (by decide) rfl r_kx_7 ?_
            refine ab_iload (i := 4) d_K_ring_57 rfl ?_
            refine ab_iload_n (i := 3) d_K_ring_59 rfl rfl ?_
            refine ab_callV (me2 := mt_Ways_firstCable) (b := kx_ways) (as := [.int (I kx_now_cables_first v1.toNatClampNeg), .int (I kx_now_cables_second v1.toNatClampNeg)]) (st := []) (rv := (some (.int (I kx_ways_step (((I kx_now_cables_first v1.toNatClampNeg) * 10) + (I kx_now_cables_second v1.toNatClampNeg)).toNatClampNeg)))) (M2 := (I, L, ab_RR, n, nc, ns)) d_K_ring_60 ce_Ways_firstCable v_1004 v_1005 v_1006 (by decide) rfl (Nat.le_of_ble_eq_true rfl) (cx_Ways_firstCable_0 (I kx_now_cables_first v1.toNatClampNeg) (I kx_now_cables_second v1.toNatClampNeg) hT g11) (Nat.le_refl _) (Nat.le_refl _) hc hs (fun j h9 => by cases h9) (fun _ _ => rfl) ?_
            show ab_E w (d + 3) mt_K_ring 63 [.ref kx, .int v1, .int v2, .int (I kx_now_cables_second v1.toNatClampNeg), .int (I kx_now_cables_first v1.toNatClampNeg), .null, .null] [.int (I kx_ways_step (((I kx_now_cables_first v1.toNatClampNeg) * 10) + (I kx_now_cables_second v1.toNatClampNeg)).toNatClampNeg)] (I, L, ab_RR, n, nc, ns) res
            refine ab_istore (i := 5) d_K_ring_63 (by decide) (Or.inr rfl) ?_
            refine ab_iconst (v := 0) d_K_ring_65 rfl ?_
            refine ab_istore (i := 6) d_K_ring_66 (by decide) (Or.inr rfl) ?_
            exact h
          · have h := h.2 c12
            exact ab_throw (E := "java/util/NoSuchElementException") d_K_ring_18 d_K_ring_21 d_K_ring_22 d_K_ring_25 (by decide +kernel) rfl v_1049 v_163 x3_K_185 x4_K_185 h8 (Nat.le_of_ble_eq_true rfl) h
      · have h := h.2 c4
        refine ab_callV (me2 := mt_K_ringSize) (b := kx) (as := [.int v1]) (st := [.int v2]) (rv := (some (.int 0))) (M2 := (I, L, ab_RR, n, nc, ns)) d_K_ring_12 ce_K_ringSize v_1075 v_1077 v_44 (by decide) rfl (Nat.le_of_ble_eq_true rfl) (cx_K_ringSize_0 v1 hT c4 (show (0 : Int32) = 0 from by decide) (show (0 : Int32) = 0 from by decide)) (Nat.le_refl _) (Nat.le_refl _) hc hs (fun j h9 => by cases h9) (fun _ _ => rfl) ?_
        show ab_E w (d + 3) mt_K_ring 15 [.ref kx, .int v1, .int v2, .null, .null, .null, .null] [.int 0, .int v2] (I, L, ab_RR, n, nc, ns) res
        refine ab_icmp_lt (tgt := 26) d_K_ring_15 (by decide) (fun c14 => ?_) (fun c14 => ?_)
        · have h := h.1 c14
          refine ab_aload_n (i := 0) d_K_ring_26 rfl rfl ?_
          refine ab_getR (ci := 10) (k := 3) (j := kx_now) d_K_ring_27 v_475 rfl (by decide) (by decide) rfl r_kx_3 ?_
          refine ab_getR (ci := 6) (k := 0) (j := kx_now_cables) d_K_ring_30 v_294 rfl (by decide) (by decide) rfl r_kx_now_0 ?_
          refine ab_getR (ci := 1) (k := 4) (j := kx_now_cables_second) d_K_ring_33 v_216 rfl (by decide) (by decide) rfl r_kx_now_cables_4 ?_
          refine ab_iload_n (i := 1) d_K_ring_36 rfl rfl ?_
          have g15 := h.1; have h := h.2
          refine ab_iald d_K_ring_37 rfl rfl g15 ?_
          refine ab_istore_n (i := 3) d_K_ring_38 rfl (by decide) (Or.inr rfl) ?_
          refine ab_aload_n (i := 0) d_K_ring_39 rfl rfl ?_
          refine ab_getR (ci := 10) (k := 3) (j := kx_now) d_K_ring_40 v_475 rfl (by decide) (by decide) rfl r_kx_3 ?_
          refine ab_getR (ci := 6) (k := 0) (j := kx_now_cables) d_K_ring_43 v_294 rfl (by decide) (by decide) rfl r_kx_now_0 ?_
          refine ab_getR (ci := 1) (k := 3) (j := kx_now_cables_first) d_K_ring_46 v_209 rfl (by decide) (by decide) rfl r_kx_now_cables_3 ?_
          refine ab_iload_n (i := 1) d_K_ring_49 rfl rfl ?_
          refine ab_iald d_K_ring_50 rfl rfl g15 ?_
          refine ab_istore (i := 4) d_K_ring_51 (by decide) (Or.inr rfl) ?_
          refine ab_aload_n (i := 0) d_K_ring_53 rfl rfl ?_
          refine ab_getR (ci := 10) (k := 7) (j := kx_ways) d_K_ring_54 v_479 rfl (by decide) (by decide) rfl r_kx_7 ?_
          refine ab_iload (i := 4) d_K_ring_57 rfl ?_
          refine ab_iload_n (i := 3) d_K_ring_59 rfl rfl ?_
          have g17 := h.1; have h := h.2
          refine ab_callV (me2 := mt_Ways_firstCable) (b := kx_ways) (as := [.int (I kx_now_cables_first v1.toNatClampNeg), .int (I kx_now_cables_second v1.toNatClampNeg)]) (st := []) (rv := (some (.int (I kx_ways_step (((I kx_now_cables_first v1.toNatClampNeg) * 10) + (I kx_now_cables_second v1.toNatClampNeg)).toNatClampNeg)))) (M2 := (I, L, ab_RR, n, nc, ns)) d_K_ring_60 ce_Ways_firstCable v_1004 v_1005 v_1006 (by decide) rfl (Nat.le_of_ble_eq_true rfl) (cx_Ways_firstCable_0 (I kx_now_cables_first v1.toNatClampNeg) (I kx_now_cables_second v1.toNatClampNeg) hT g17) (Nat.le_refl _) (Nat.le_refl _) hc hs (fun j h9 => by cases h9) (fun _ _ => rfl) ?_
          show ab_E w (d + 3) mt_K_ring 63 [.ref kx, .int v1, .int v2, .int (I kx_now_cables_second v1.toNatClampNeg), .int (I kx_now_cables_first v1.toNatClampNeg), .null, .null] [.int (I kx_ways_step (((I kx_now_cables_first v1.toNatClampNeg) * 10) + (I kx_now_cables_second v1.toNatClampNeg)).toNatClampNeg)] (I, L, ab_RR, n, nc, ns) res
          refine ab_istore (i := 5) d_K_ring_63 (by decide) (Or.inr rfl) ?_
          refine ab_iconst (v := 0) d_K_ring_65 rfl ?_
          refine ab_istore (i := 6) d_K_ring_66 (by decide) (Or.inr rfl) ?_
          exact h
        · have h := h.2 c14
          exact ab_throw (E := "java/util/NoSuchElementException") d_K_ring_18 d_K_ring_21 d_K_ring_22 d_K_ring_25 (by decide +kernel) rfl v_1049 v_163 x3_K_185 x4_K_185 h8 (Nat.le_of_ble_eq_true rfl) h
  · exact ab_callVX (me2 := mt_K_needCable) (b := kx) (as := [.int v1]) (st := []) (M2 := (I, L, ab_RR, n, nc + 1, ns + 6)) rfl d_K_ring_2 ce_K_needCable v_1071 v_1073 v_43 (by decide) rfl (Nat.le_of_ble_eq_true rfl) hC (Nat.le_succ _) (Nat.le_add_right _ _) (fun _ _ => rfl) h
theorem r_K_ring_68 {w : ab_Wd} {d n nc ns : Nat} {I : Nat → Nat → Int32} {L : Nat → Nat → Int64} {res : ab_Re} (hT : w.1.stackTraces = false) (v1 : Int32) (v2 : Int32) (v3 : Int32) (v4 : Int32) (v5 : Int32) (v6 : Int32) (h8 : 8 ≤ (d + 3)) (hc : nc ≤ res.2.2.2.2.2.1) (hs : ns ≤ res.2.2.2.2.2.2)
    (h : ((v2 ≤ v6 → (res = (.inl (some (.int v5)), (I, L, ab_RR, n, nc, ns)))) ∧ (¬ v2 ≤ v6 → ((v5 = (-1) → (res = (.inl (some (.int v5)), (I, L, ab_RR, n, nc, ns)))) ∧ (¬ v5 = (-1) → ((vp_in v5 24) ∧ (((I kx_now_cables_first v5.toNatClampNeg) = v4 → ((vp_in (((I kx_now_cables_second v5.toNatClampNeg) * 10) + v3) 100) ∧ ab_E w (d + 3) mt_K_ring 68 [.ref kx, .int v1, .int v2, .int v3, .int (I kx_now_cables_second v5.toNatClampNeg), .int (I kx_ways_step (((I kx_now_cables_second v5.toNatClampNeg) * 10) + v3).toNatClampNeg), .int (v6 + 1)] [] (I, L, ab_RR, n, nc, ns) res)) ∧ (¬ (I kx_now_cables_first v5.toNatClampNeg) = v4 → ((vp_in (((I kx_now_cables_first v5.toNatClampNeg) * 10) + v3) 100) ∧ ab_E w (d + 3) mt_K_ring 68 [.ref kx, .int v1, .int v2, .int v3, .int (I kx_now_cables_first v5.toNatClampNeg), .int (I kx_ways_step (((I kx_now_cables_first v5.toNatClampNeg) * 10) + v3).toNatClampNeg), .int (v6 + 1)] [] (I, L, ab_RR, n, nc, ns) res))))))))) : ab_E w (d + 3) mt_K_ring 68 [.ref kx, .int v1, .int v2, .int v3, .int v4, .int v5, .int v6] [] (I, L, ab_RR, n, nc, ns) res := by
  refine ab_iload (i := 6) d_K_ring_68 rfl ?_
  refine ab_iload_n (i := 2) d_K_ring_70 rfl rfl ?_
  refine ab_icmp_ge (tgt := 114) d_K_ring_71 (by decide) (fun c1 => ?_) (fun c1 => ?_)
  · have h := h.1 c1
    refine ab_iload (i := 5) d_K_ring_114 rfl ?_
    exact ab_iret (ty := .int) d_K_ring_116 rfl rfl h
  · have h := h.2 c1
    refine ab_iload (i := 5) d_K_ring_74 rfl ?_
    refine ab_iconst (v := (-1)) d_K_ring_76 rfl ?_
    refine ab_icmp_eq (tgt := 114) d_K_ring_77 (by decide) (fun c2 => ?_) (fun c2 => ?_)
    · have h := h.1 c2
      refine ab_iload (i := 5) d_K_ring_114 rfl ?_
      exact ab_iret (ty := .int) d_K_ring_116 rfl rfl h
    · have h := h.2 c2
      refine ab_aload_n (i := 0) d_K_ring_80 rfl rfl ?_
      refine ab_getR (ci := 10) (k := 3) (j := kx_now) d_K_ring_81 v_475 rfl (by decide) (by decide) rfl r_kx_3 ?_
      refine ab_getR (ci := 6) (k := 0) (j := kx_now_cables) d_K_ring_84 v_294 rfl (by decide) (by decide) rfl r_kx_now_0 ?_
      refine ab_iload (i := 5) d_K_ring_87 rfl ?_
      refine ab_iload (i := 4) d_K_ring_89 rfl ?_
      have g4 := h.1; have h := h.2
      by_cases c5 : (I kx_now_cables_first v5.toNatClampNeg) = v4
      · have h := h.1 c5
        refine ab_callV (me2 := mt_Cables_otherEnd) (b := kx_now_cables) (as := [.int v5, .int v4]) (st := []) (rv := (some (.int (I kx_now_cables_second v5.toNatClampNeg)))) (M2 := (I, L, ab_RR, n, nc, ns)) d_K_ring_91 ce_Cables_otherEnd v_1106 v_1107 v_1108 (by decide) rfl (Nat.le_of_ble_eq_true rfl) (cx_Cables_otherEnd_1 v5 v4 hT g4 c5 g4) (Nat.le_refl _) (Nat.le_refl _) hc hs (fun j h9 => by cases h9) (fun _ _ => rfl) ?_
        show ab_E w (d + 3) mt_K_ring 94 [.ref kx, .int v1, .int v2, .int v3, .int v4, .int v5, .int v6] [.int (I kx_now_cables_second v5.toNatClampNeg)] (I, L, ab_RR, n, nc, ns) res
        refine ab_istore (i := 4) d_K_ring_94 (by decide) (Or.inr rfl) ?_
        refine ab_aload_n (i := 0) d_K_ring_96 rfl rfl ?_
        refine ab_getR (ci := 10) (k := 7) (j := kx_ways) d_K_ring_97 v_479 rfl (by decide) (by decide) rfl r_kx_7 ?_
        refine ab_iload (i := 4) d_K_ring_100 rfl ?_
        refine ab_iload_n (i := 3) d_K_ring_102 rfl rfl ?_
        have g7 := h.1; have h := h.2
        refine ab_callV (me2 := mt_Ways_firstCable) (b := kx_ways) (as := [.int (I kx_now_cables_second v5.toNatClampNeg), .int v3]) (st := []) (rv := (some (.int (I kx_ways_step (((I kx_now_cables_second v5.toNatClampNeg) * 10) + v3).toNatClampNeg)))) (M2 := (I, L, ab_RR, n, nc, ns)) d_K_ring_103 ce_Ways_firstCable v_1004 v_1005 v_1006 (by decide) rfl (Nat.le_of_ble_eq_true rfl) (cx_Ways_firstCable_0 (I kx_now_cables_second v5.toNatClampNeg) v3 hT g7) (Nat.le_refl _) (Nat.le_refl _) hc hs (fun j h9 => by cases h9) (fun _ _ => rfl) ?_
        show ab_E w (d + 3) mt_K_ring 106 [.ref kx, .int v1, .int v2, .int v3, .int (I kx_now_cables_second v5.toNatClampNeg), .int v5, .int v6] [.int (I kx_ways_step (((I kx_now_cables_second v5.toNatClampNeg) * 10) + v3).toNatClampNeg)] (I, L, ab_RR, n, nc, ns) res
        refine ab_istore (i := 5) d_K_ring_106 (by decide) (Or.inr rfl) ?_
        refine ab_iinc (i := 6) (v := (v6 + 1)) d_K_ring_108 rfl rfl (by decide) (Or.inr rfl) ?_
        refine ab_goto (tgt := 68) d_K_ring_111 (by decide) ?_
        exact h
      · have h := h.2 c5
        refine ab_callV (me2 := mt_Cables_otherEnd) (b := kx_now_cables) (as := [.int v5, .int v4]) (st := []) (rv := (some (.int (I kx_now_cables_first v5.toNatClampNeg)))) (M2 := (I, L, ab_RR, n, nc, ns)) d_K_ring_91 ce_Cables_otherEnd v_1106 v_1107 v_1108 (by decide) rfl (Nat.le_of_ble_eq_true rfl) (cx_Cables_otherEnd_0 v5 v4 hT g4 c5 g4) (Nat.le_refl _) (Nat.le_refl _) hc hs (fun j h9 => by cases h9) (fun _ _ => rfl) ?_
        show ab_E w (d + 3) mt_K_ring 94 [.ref kx, .int v1, .int v2, .int v3, .int v4, .int v5, .int v6] [.int (I kx_now_cables_first v5.toNatClampNeg)] (I, L, ab_RR, n, nc, ns) res
        refine ab_istore (i := 4) d_K_ring_94 (by decide) (Or.inr rfl) ?_
        refine ab_aload_n (i := 0) d_K_ring_96 rfl rfl ?_
        refine ab_getR (ci := 10) (k := 7) (j := kx_ways) d_K_ring_97 v_479 rfl (by decide) (by decide) rfl r_kx_7 ?_
        refine ab_iload (i := 4) d_K_ring_100 rfl ?_
        refine ab_iload_n (i := 3) d_K_ring_102 rfl rfl ?_
        have g9 := h.1; have h := h.2
        refine ab_callV (me2 := mt_Ways_firstCable) (b := kx_ways) (as := [.int (I kx_now_cables_first v5.toNatClampNeg), .int v3]) (st := []) (rv := (some (.int (I kx_ways_step (((I kx_now_cables_first v5.toNatClampNeg) * 10) + v3).toNatClampNeg)))) (M2 := (I, L, ab_RR, n, nc, ns)) d_K_ring_103 ce_Ways_firstCable v_1004 v_1005 v_1006 (by decide) rfl (Nat.le_of_ble_eq_true rfl) (cx_Ways_firstCable_0 (I kx_now_cables_first v5.toNatClampNeg) v3 hT g9) (Nat.le_refl _) (Nat.le_refl _) hc hs (fun j h9 => by cases h9) (fun _ _ => rfl) ?_
        show ab_E w (d + 3) mt_K_ring 106 [.ref kx, .int v1, .int v2, .int v3, .int (I kx_now_cables_first v5.toNatClampNeg), .int v5, .int v6] [.int (I kx_ways_step (((I kx_now_cables_first v5.toNatClampNeg) * 10) + v3).toNatClampNeg)] (I, L, ab_RR, n, nc, ns) res
        refine ab_istore (i := 5) d_K_ring_106 (by decide) (Or.inr rfl) ?_
        refine ab_iinc (i := 6) (v := (v6 + 1)) d_K_ring_108 rfl rfl (by decide) (Or.inr rfl) ?_
        refine ab_goto (tgt := 68) d_K_ring_111 (by decide) ?_
        exact h
theorem r_K_taken_0 {w : ab_Wd} {d n nc ns : Nat} {I : Nat → Nat → Int32} {L : Nat → Nat → Int64} {res : ab_Re} (hT : w.1.stackTraces = false) (v1 : Int32) (h8 : 8 ≤ (d + 1)) (hc : nc ≤ res.2.2.2.2.2.1) (hs : ns ≤ res.2.2.2.2.2.2)
    (h : ((v1 < 0 → (res = (.inr "java/util/NoSuchElementException", (I, L, ab_RR, n, nc + 1, ns + 6)))) ∧ (¬ v1 < 0 → ((v1 < (I kx_forest 1) → ((vp_in v1 9) ∧ res = (.inl (some (.int (I kx_forest_order v1.toNatClampNeg))), (I, L, ab_RR, n, nc, ns)))) ∧ (¬ v1 < (I kx_forest 1) → (res = (.inr "java/util/NoSuchElementException", (I, L, ab_RR, n, nc + 1, ns + 6)))))))) : ab_E w (d + 1) mt_K_taken 0 [.ref kx, .int v1] [] (I, L, ab_RR, n, nc, ns) res := by
  refine ab_iload_n (i := 1) d_K_taken_0 rfl rfl ?_
  refine ab_if_lt (tgt := 15) d_K_taken_1 (by decide) (fun c1 => ?_) (fun c1 => ?_)
  · have h := h.1 c1
    exact ab_throw (E := "java/util/NoSuchElementException") d_K_taken_15 d_K_taken_18 d_K_taken_19 d_K_taken_22 (by decide +kernel) rfl v_1049 v_163 x3_K_185 x4_K_185 h8 (Nat.le_of_ble_eq_true rfl) h
  · have h := h.2 c1
    refine ab_iload_n (i := 1) d_K_taken_4 rfl rfl ?_
    refine ab_aload_n (i := 0) d_K_taken_5 rfl rfl ?_
    refine ab_getR (ci := 10) (k := 6) (j := kx_forest) d_K_taken_6 v_478 rfl (by decide) (by decide) rfl r_kx_6 ?_
    refine ab_getI (ci := 2) (k := 1) d_K_taken_9 v_333 rfl (by decide) (by decide) rfl ?_
    refine ab_icmp_lt (tgt := 23) d_K_taken_12 (by decide) (fun c2 => ?_) (fun c2 => ?_)
    · have h := h.1 c2
      refine ab_aload_n (i := 0) d_K_taken_23 rfl rfl ?_
      refine ab_getR (ci := 10) (k := 6) (j := kx_forest) d_K_taken_24 v_478 rfl (by decide) (by decide) rfl r_kx_6 ?_
      refine ab_getR (ci := 2) (k := 0) (j := kx_forest_order) d_K_taken_27 v_330 rfl (by decide) (by decide) rfl r_kx_forest_0 ?_
      refine ab_iload_n (i := 1) d_K_taken_30 rfl rfl ?_
      have g3 := h.1; have h := h.2
      refine ab_iald d_K_taken_31 rfl rfl g3 ?_
      exact ab_iret (ty := .int) d_K_taken_32 rfl rfl h
    · have h := h.2 c2
      exact ab_throw (E := "java/util/NoSuchElementException") d_K_taken_15 d_K_taken_18 d_K_taken_19 d_K_taken_22 (by decide +kernel) rfl v_1049 v_163 x3_K_185 x4_K_185 h8 (Nat.le_of_ble_eq_true rfl) h
theorem r_K_site_0 {w : ab_Wd} {d n nc ns : Nat} {I : Nat → Nat → Int32} {L : Nat → Nat → Int64} {res : ab_Re} (hT : w.1.stackTraces = false) (v1 : Int32) (v2 : Int32) (h8 : 8 ≤ (d + 1)) (hc : nc ≤ res.2.2.2.2.2.1) (hs : ns ≤ res.2.2.2.2.2.2)
    (h : ((ab_C w d mt_K_needSite [.ref kx, .int v1] (I, L, ab_RR, n, nc, ns) (.inl none, (I, L, ab_RR, n, nc, ns)) ∧ ((v2 = 0 → (∃ (r2 : Int32), ab_C w d mt_K_endsAt [.ref kx, .int v1] (I, L, ab_RR, n, nc, ns) (.inl (some (.int r2)), (I, L, ab_RR, n, nc, ns)) ∧ res = (.inl (some (.int r2)), (I, L, ab_RR, n, nc, ns)))) ∧ (v2 = 1 → (∃ (r3 : Int32), ab_C w d mt_K_endsAt [.ref kx, .int v1] (I, L, ab_RR, n, nc, ns) (.inl (some (.int r3)), (I, L, ab_RR, n, nc, ns)) ∧ ((¬ r3 = 1 → (res = (.inl (some (.int 0)), (I, L, ab_RR, n, nc, ns)))) ∧ (r3 = 1 → (res = (.inl (some (.int 1)), (I, L, ab_RR, n, nc, ns))))))) ∧ (v2 = 2 → ((vp_in v1 10) ∧ res = (.inl (some (.int (I kx_forest_piece v1.toNatClampNeg))), (I, L, ab_RR, n, nc, ns)))) ∧ (v2 = 3 → (∃ (r6 : Int32) (I7 : Nat → Nat → Int32), ab_C w d mt_K_aloneOf [.ref kx, .int v1] (I, L, ab_RR, n, nc, ns) (.inl (some (.int r6)), (I7, L, ab_RR, n, nc, ns)) ∧ res = (.inl (some (.int r6)), (I7, L, ab_RR, n, nc, ns)))) ∧ ((v2.toInt < 0 ∨ 3 < v2.toInt) → (res = (.inr "java/util/NoSuchElementException", (I, L, ab_RR, n, nc + 1, ns + 6)))))) ∨ (∃ E : String, ab_C w d mt_K_needSite [.ref kx, .int v1] (I, L, ab_RR, n, nc, ns) (.inr E, (I, L, ab_RR, n, nc + 1, ns + 6)) ∧ res = (.inr E, (I, L, ab_RR, n, nc + 1, ns + 6))))) : ab_E w (d + 1) mt_K_site 0 [.ref kx, .int v1, .int v2] [] (I, L, ab_RR, n, nc, ns) res := by
  refine ab_aload_n (i := 0) d_K_site_0 rfl rfl ?_
  refine ab_iload_n (i := 1) d_K_site_1 rfl rfl ?_
  rcases h with ⟨hC, h⟩ | ⟨E9, hC, h⟩
  · refine ab_callV (me2 := mt_K_needSite) (b := kx) (as := [.int v1]) (st := []) (rv := none) (M2 := (I, L, ab_RR, n, nc, ns)) d_K_site_2 ce_K_needSite v_1124 v_1126 v_49 (by decide) rfl (Nat.le_of_ble_eq_true rfl) hC (Nat.le_refl _) (Nat.le_refl _) hc hs (fun j h9 => by cases h9) (fun _ _ => rfl) ?_
    show ab_E w (d + 1) mt_K_site 5 [.ref kx, .int v1, .int v2] [] (I, L, ab_RR, n, nc, ns) res
    refine ab_iload_n (i := 2) d_K_site_5 rfl rfl ?_
    by_cases c8 : v2 = 0
    · have h := h.1 c8
      refine ab_tabIn (tgt := 36) d_K_site_6 (by rw [c8]; decide) (by rw [c8]; decide) (by rw [ab_tab_in (j := 0) c8 (by decide)]; rfl) (by decide) ?_
      refine ab_aload_n (i := 0) d_K_site_36 rfl rfl ?_
      refine ab_iload_n (i := 1) d_K_site_37 rfl rfl ?_
      obtain ⟨r2, hC, h⟩ := h
      refine ab_callV (me2 := mt_K_endsAt) (b := kx) (as := [.int v1]) (st := []) (rv := (some (.int r2))) (M2 := (I, L, ab_RR, n, nc, ns)) d_K_site_38 ce_K_endsAt v_956 v_958 v_32 (by decide) rfl (Nat.le_of_ble_eq_true rfl) hC (Nat.le_refl _) (Nat.le_refl _) hc hs (fun j h9 => by cases h9) (fun _ _ => rfl) ?_
      show ab_E w (d + 1) mt_K_site 41 [.ref kx, .int v1, .int v2] [.int r2] (I, L, ab_RR, n, nc, ns) res
      exact ab_iret (ty := .int) d_K_site_41 rfl rfl h
    by_cases c9 : v2 = 1
    · have h := h.2.1 c9
      refine ab_tabIn (tgt := 42) d_K_site_6 (by rw [c9]; decide) (by rw [c9]; decide) (by rw [ab_tab_in (j := 1) c9 (by decide)]; rfl) (by decide) ?_
      refine ab_aload_n (i := 0) d_K_site_42 rfl rfl ?_
      refine ab_iload_n (i := 1) d_K_site_43 rfl rfl ?_
      obtain ⟨r3, hC, h⟩ := h
      refine ab_callV (me2 := mt_K_endsAt) (b := kx) (as := [.int v1]) (st := []) (rv := (some (.int r3))) (M2 := (I, L, ab_RR, n, nc, ns)) d_K_site_44 ce_K_endsAt v_956 v_958 v_32 (by decide) rfl (Nat.le_of_ble_eq_true rfl) hC (Nat.le_refl _) (Nat.le_refl _) hc hs (fun j h9 => by cases h9) (fun _ _ => rfl) ?_
      show ab_E w (d + 1) mt_K_site 47 [.ref kx, .int v1, .int v2] [.int r3] (I, L, ab_RR, n, nc, ns) res
      refine ab_iconst (v := 1) d_K_site_47 rfl ?_
      refine ab_icmp_ne (tgt := 55) d_K_site_48 (by decide) (fun c4 => ?_) (fun c4 => ?_)
      · have h := h.1 c4
        refine ab_iconst (v := 0) d_K_site_55 rfl ?_
        exact ab_iret (ty := .int) d_K_site_56 rfl rfl h
      · have h := h.2 c4
        refine ab_iconst (v := 1) d_K_site_51 rfl ?_
        refine ab_goto (tgt := 56) d_K_site_52 (by decide) ?_
        exact ab_iret (ty := .int) d_K_site_56 rfl rfl h
    by_cases c10 : v2 = 2
    · have h := h.2.2.1 c10
      refine ab_tabIn (tgt := 57) d_K_site_6 (by rw [c10]; decide) (by rw [c10]; decide) (by rw [ab_tab_in (j := 2) c10 (by decide)]; rfl) (by decide) ?_
      refine ab_aload_n (i := 0) d_K_site_57 rfl rfl ?_
      refine ab_getR (ci := 10) (k := 6) (j := kx_forest) d_K_site_58 v_478 rfl (by decide) (by decide) rfl r_kx_6 ?_
      refine ab_getR (ci := 2) (k := 5) (j := kx_forest_piece) d_K_site_61 v_341 rfl (by decide) (by decide) rfl r_kx_forest_5 ?_
      refine ab_iload_n (i := 1) d_K_site_64 rfl rfl ?_
      have g5 := h.1; have h := h.2
      refine ab_iald d_K_site_65 rfl rfl g5 ?_
      exact ab_iret (ty := .int) d_K_site_66 rfl rfl h
    by_cases c11 : v2 = 3
    · have h := h.2.2.2.1 c11
      refine ab_tabIn (tgt := 67) d_K_site_6 (by rw [c11]; decide) (by rw [c11]; decide) (by rw [ab_tab_in (j := 3) c11 (by decide)]; rfl) (by decide) ?_
      refine ab_aload_n (i := 0) d_K_site_67 rfl rfl ?_
      refine ab_iload_n (i := 1) d_K_site_68 rfl rfl ?_
      obtain ⟨r6, I7, hC, h⟩ := h
      refine ab_callV (me2 := mt_K_aloneOf) (b := kx) (as := [.int v1]) (st := []) (rv := (some (.int r6))) (M2 := (I7, L, ab_RR, n, nc, ns)) d_K_site_69 ce_K_aloneOf v_1128 v_1130 v_50 (by decide) rfl (Nat.le_of_ble_eq_true rfl) hC (Nat.le_refl _) (Nat.le_refl _) hc hs (fun j h9 => by cases h9) (fun _ _ => rfl) ?_
      show ab_E w (d + 1) mt_K_site 72 [.ref kx, .int v1, .int v2] [.int r6] (I7, L, ab_RR, n, nc, ns) res
      exact ab_iret (ty := .int) d_K_site_72 rfl rfl h
    have hr : v2.toInt < 0 ∨ 3 < v2.toInt := by
      rcases Int.lt_or_le v2.toInt 0 with h9 | h9
      · exact Or.inl h9
      · refine Or.inr (Int.not_le.mp fun h8 => ?_)
        exact ab_tab_out (lo := 0) (hi := 3) (k := 4) h9 h8 (by decide) (by
          intro j hj
          match j, hj with
          | 0, _ => exact c8
          | 1, _ => exact c9
          | 2, _ => exact c10
          | 3, _ => exact c11
          | j9 + 4, hj => exact absurd hj (by omega))
    have h := h.2.2.2.2 hr
    refine ab_tabOut (tgt := 73) d_K_site_6 hr (by decide) ?_
    exact ab_throw (E := "java/util/NoSuchElementException") d_K_site_73 d_K_site_76 d_K_site_77 d_K_site_80 (by decide +kernel) rfl v_1049 v_163 x3_K_185 x4_K_185 h8 (Nat.le_of_ble_eq_true rfl) h
  · exact ab_callVX (me2 := mt_K_needSite) (b := kx) (as := [.int v1]) (st := []) (M2 := (I, L, ab_RR, n, nc + 1, ns + 6)) rfl d_K_site_2 ce_K_needSite v_1124 v_1126 v_49 (by decide) rfl (Nat.le_of_ble_eq_true rfl) hC (Nat.le_succ _) (Nat.le_add_right _ _) (fun _ _ => rfl) h
theorem cx_K_narrowOf_0 {w : ab_Wd} {d n nc ns : Nat} {I : Nat → Nat → Int32} {L : Nat → Nat → Int64} (v1 : Int32) (v2 : Int32) (hT : w.1.stackTraces = false) (e1 : ¬ v1 = v2) (e2 : (vp_in ((v1 * 10) + v2) 100)) (e3 : ¬ (I kx_ways_dearest ((v1 * 10) + v2).toNatClampNeg) = (-1)) (e4 : (vp_in (I kx_ways_dearest ((v1 * 10) + v2).toNatClampNeg) 24)) : ab_C w (d + 2) mt_K_narrowOf [.ref kx, .int v1, .int v2] (I, L, ab_RR, n, nc, ns) (.inl (some (.int (I kx_now_cables_price (I kx_ways_dearest ((v1 * 10) + v2).toNatClampNeg).toNatClampNeg))), (I, L, ab_RR, n, nc, ns)) := by
  refine ab_C_of (by decide) rfl (Nat.le_of_ble_eq_true rfl) hT ?_
  have hc := Nat.le_refl nc
  have hs := Nat.le_refl ns
  refine ab_iload_n (i := 1) d_K_narrowOf_0 rfl rfl ?_
  refine ab_iload_n (i := 2) d_K_narrowOf_1 rfl rfl ?_
  refine ab_icmp_ne (tgt := 7) d_K_narrowOf_2 (by decide) (fun _ => ?_) (fun c9 => absurd c9 e1)
  refine ab_aload_n (i := 0) d_K_narrowOf_7 rfl rfl ?_
  refine ab_getR (ci := 10) (k := 7) (j := kx_ways) d_K_narrowOf_8 v_479 rfl (by decide) (by decide) rfl r_kx_7 ?_
  refine ab_iload_n (i := 1) d_K_narrowOf_11 rfl rfl ?_
  refine ab_iload_n (i := 2) d_K_narrowOf_12 rfl rfl ?_
  refine ab_callV (me2 := mt_Ways_dearestCable) (b := kx_ways) (as := [.int v1, .int v2]) (st := []) (rv := (some (.int (I kx_ways_dearest ((v1 * 10) + v2).toNatClampNeg)))) (M2 := (I, L, ab_RR, n, nc, ns)) d_K_narrowOf_13 ce_Ways_dearestCable v_948 v_949 v_950 (by decide) rfl (Nat.le_of_ble_eq_true rfl) (cx_Ways_dearestCable_0 v1 v2 hT e2) (Nat.le_refl _) (Nat.le_refl _) hc hs (fun j h9 => by cases h9) (fun _ _ => rfl) ?_
  show ab_E w (d + 2) mt_K_narrowOf 16 [.ref kx, .int v1, .int v2, .null] [.int (I kx_ways_dearest ((v1 * 10) + v2).toNatClampNeg)] (I, L, ab_RR, n, nc, ns) _
  refine ab_istore_n (i := 3) d_K_narrowOf_16 rfl (by decide) (Or.inr rfl) ?_
  refine ab_iload_n (i := 3) d_K_narrowOf_17 rfl rfl ?_
  refine ab_iconst (v := (-1)) d_K_narrowOf_18 rfl ?_
  refine ab_icmp_ne (tgt := 26) d_K_narrowOf_19 (by decide) (fun _ => ?_) (fun c9 => absurd c9 e3)
  refine ab_aload_n (i := 0) d_K_narrowOf_26 rfl rfl ?_
  refine ab_getR (ci := 10) (k := 3) (j := kx_now) d_K_narrowOf_27 v_475 rfl (by decide) (by decide) rfl r_kx_3 ?_
  refine ab_getR (ci := 6) (k := 0) (j := kx_now_cables) d_K_narrowOf_30 v_294 rfl (by decide) (by decide) rfl r_kx_now_0 ?_
  refine ab_getR (ci := 1) (k := 5) (j := kx_now_cables_price) d_K_narrowOf_33 v_224 rfl (by decide) (by decide) rfl r_kx_now_cables_5 ?_
  refine ab_iload_n (i := 3) d_K_narrowOf_36 rfl rfl ?_
  refine ab_iald d_K_narrowOf_37 rfl rfl e4 ?_
  exact ab_iret (ty := .int) d_K_narrowOf_38 rfl rfl rfl
theorem cx_K_narrowOf_1 {w : ab_Wd} {d n nc ns : Nat} {I : Nat → Nat → Int32} {L : Nat → Nat → Int64} (v1 : Int32) (v2 : Int32) (hT : w.1.stackTraces = false) (e1 : ¬ v1 = v2) (e2 : (vp_in ((v1 * 10) + v2) 100)) (e3 : (I kx_ways_dearest ((v1 * 10) + v2).toNatClampNeg) = (-1)) : ab_C w (d + 2) mt_K_narrowOf [.ref kx, .int v1, .int v2] (I, L, ab_RR, n, nc, ns) (.inl (some (.int (-1))), (I, L, ab_RR, n, nc, ns)) := by
  refine ab_C_of (by decide) rfl (Nat.le_of_ble_eq_true rfl) hT ?_
  have hc := Nat.le_refl nc
  have hs := Nat.le_refl ns
  refine ab_iload_n (i := 1) d_K_narrowOf_0 rfl rfl ?_
  refine ab_iload_n (i := 2) d_K_narrowOf_1 rfl rfl ?_
  refine ab_icmp_ne (tgt := 7) d_K_narrowOf_2 (by decide) (fun _ => ?_) (fun c9 => absurd c9 e1)
  refine ab_aload_n (i := 0) d_K_narrowOf_7 rfl rfl ?_
  refine ab_getR (ci := 10) (k := 7) (j := kx_ways) d_K_narrowOf_8 v_479 rfl (by decide) (by decide) rfl r_kx_7 ?_
  refine ab_iload_n (i := 1) d_K_narrowOf_11 rfl rfl ?_
  refine ab_iload_n (i := 2) d_K_narrowOf_12 rfl rfl ?_
  refine ab_callV (me2 := mt_Ways_dearestCable) (b := kx_ways) (as := [.int v1, .int v2]) (st := []) (rv := (some (.int (I kx_ways_dearest ((v1 * 10) + v2).toNatClampNeg)))) (M2 := (I, L, ab_RR, n, nc, ns)) d_K_narrowOf_13 ce_Ways_dearestCable v_948 v_949 v_950 (by decide) rfl (Nat.le_of_ble_eq_true rfl) (cx_Ways_dearestCable_0 v1 v2 hT e2) (Nat.le_refl _) (Nat.le_refl _) hc hs (fun j h9 => by cases h9) (fun _ _ => rfl) ?_
  show ab_E w (d + 2) mt_K_narrowOf 16 [.ref kx, .int v1, .int v2, .null] [.int (I kx_ways_dearest ((v1 * 10) + v2).toNatClampNeg)] (I, L, ab_RR, n, nc, ns) _
  refine ab_istore_n (i := 3) d_K_narrowOf_16 rfl (by decide) (Or.inr rfl) ?_
  refine ab_iload_n (i := 3) d_K_narrowOf_17 rfl rfl ?_
  refine ab_iconst (v := (-1)) d_K_narrowOf_18 rfl ?_
  refine ab_icmp_ne (tgt := 26) d_K_narrowOf_19 (by decide) (fun c9 => absurd e3 c9) (fun _ => ?_)
  refine ab_iconst (v := (-1)) d_K_narrowOf_22 rfl ?_
  refine ab_goto (tgt := 38) d_K_narrowOf_23 (by decide) ?_
  exact ab_iret (ty := .int) d_K_narrowOf_38 rfl rfl rfl
theorem cx_K_narrowOf_2 {w : ab_Wd} {d n nc ns : Nat} {I : Nat → Nat → Int32} {L : Nat → Nat → Int64} (v1 : Int32) (v2 : Int32) (hT : w.1.stackTraces = false) (e1 : v1 = v2) : ab_C w (d + 2) mt_K_narrowOf [.ref kx, .int v1, .int v2] (I, L, ab_RR, n, nc, ns) (.inl (some (.int 0)), (I, L, ab_RR, n, nc, ns)) := by
  refine ab_C_of (by decide) rfl (Nat.le_of_ble_eq_true rfl) hT ?_
  have hc := Nat.le_refl nc
  have hs := Nat.le_refl ns
  refine ab_iload_n (i := 1) d_K_narrowOf_0 rfl rfl ?_
  refine ab_iload_n (i := 2) d_K_narrowOf_1 rfl rfl ?_
  refine ab_icmp_ne (tgt := 7) d_K_narrowOf_2 (by decide) (fun c9 => absurd e1 c9) (fun _ => ?_)
  refine ab_iconst (v := 0) d_K_narrowOf_5 rfl ?_
  exact ab_iret (ty := .int) d_K_narrowOf_6 rfl rfl rfl
theorem cx_Ways_spanOf_0 {w : ab_Wd} {d n nc ns : Nat} {I : Nat → Nat → Int32} {L : Nat → Nat → Int64} (v1 : Int32) (v2 : Int32) (hT : w.1.stackTraces = false) (e1 : (vp_in ((v1 * 10) + v2) 100)) : ab_C w (d + 1) mt_Ways_spanOf [.ref kx_ways, .int v1, .int v2] (I, L, ab_RR, n, nc, ns) (.inl (some (.int (I kx_ways_span ((v1 * 10) + v2).toNatClampNeg))), (I, L, ab_RR, n, nc, ns)) := by
  refine ab_C_of (by decide) rfl (Nat.le_of_ble_eq_true rfl) hT ?_
  have hc := Nat.le_refl nc
  have hs := Nat.le_refl ns
  refine ab_aload_n (i := 0) d_Ways_spanOf_0 rfl rfl ?_
  refine ab_getR (ci := 9) (k := 1) (j := kx_ways_span) d_Ways_spanOf_1 v_362 rfl (by decide) (by decide) rfl r_kx_ways_1 ?_
  refine ab_iload_n (i := 1) d_Ways_spanOf_4 rfl rfl ?_
  refine ab_iload_n (i := 2) d_Ways_spanOf_5 rfl rfl ?_
  refine ab_callS (me2 := mt_Ways_at) (as := [.int v1, .int v2]) (st := [.ref kx_ways_span]) (rv := (some (.int ((v1 * 10) + v2)))) (M2 := (I, L, ab_RR, n, nc, ns)) d_Ways_spanOf_6 ce_Ways_at ⟨v_458, Or.inl v_457⟩ (Nat.le_of_ble_eq_true rfl) (cx_Ways_at_0 v1 v2 hT) (Nat.le_refl _) (Nat.le_refl _) hc hs (fun j h9 => by cases h9) (fun _ _ => rfl) ?_
  show ab_E w (d + 1) mt_Ways_spanOf 9 [.ref kx_ways, .int v1, .int v2] [.int ((v1 * 10) + v2), .ref kx_ways_span] (I, L, ab_RR, n, nc, ns) _
  refine ab_iald d_Ways_spanOf_9 rfl rfl e1 ?_
  exact ab_iret (ty := .int) d_Ways_spanOf_10 rfl rfl rfl
theorem r_K_way_0 {w : ab_Wd} {d n nc ns : Nat} {I : Nat → Nat → Int32} {L : Nat → Nat → Int64} {res : ab_Re} (hT : w.1.stackTraces = false) (v1 : Int32) (v2 : Int32) (v3 : Int32) (h8 : 8 ≤ (d + 3)) (hc : nc ≤ res.2.2.2.2.2.1) (hs : ns ≤ res.2.2.2.2.2.2)
    (h : ((ab_C w (d + 2) mt_K_needSite [.ref kx, .int v1] (I, L, ab_RR, n, nc, ns) (.inl none, (I, L, ab_RR, n, nc, ns)) ∧ ((ab_C w (d + 2) mt_K_needSite [.ref kx, .int v2] (I, L, ab_RR, n, nc, ns) (.inl none, (I, L, ab_RR, n, nc, ns)) ∧ ((v3 = 0 → ((v1 = v2 → (res = (.inl (some (.int 0)), (I, L, ab_RR, n, nc, ns)))) ∧ (¬ v1 = v2 → ((vp_in ((v1 * 10) + v2) 100) ∧ (((I kx_ways_dearest ((v1 * 10) + v2).toNatClampNeg) = (-1) → (res = (.inl (some (.int (-1))), (I, L, ab_RR, n, nc, ns)))) ∧ (¬ (I kx_ways_dearest ((v1 * 10) + v2).toNatClampNeg) = (-1) → ((vp_in (I kx_ways_dearest ((v1 * 10) + v2).toNatClampNeg) 24) ∧ res = (.inl (some (.int (I kx_now_cables_price (I kx_ways_dearest ((v1 * 10) + v2).toNatClampNeg).toNatClampNeg))), (I, L, ab_RR, n, nc, ns))))))))) ∧ (v3 = 1 → ((vp_in ((v1 * 10) + v2) 100) ∧ res = (.inl (some (.int (I kx_ways_span ((v1 * 10) + v2).toNatClampNeg))), (I, L, ab_RR, n, nc, ns)))) ∧ (v3 = 2 → ((vp_in ((v1 * 10) + v2) 100) ∧ res = (.inl (some (.int (I kx_ways_hops ((v1 * 10) + v2).toNatClampNeg))), (I, L, ab_RR, n, nc, ns)))) ∧ (v3 = 3 → (∃ (r12 : Int32) (I13 : Nat → Nat → Int32), ab_C w (d + 2) mt_Roads_shortest [.ref kx_roads, .ref kx_now_cables, .int v1, .int v2] (I, L, ab_RR, n, nc, ns) (.inl (some (.int r12)), (I13, L, ab_RR, n, nc, ns)) ∧ res = (.inl (some (.int r12)), (I13, L, ab_RR, n, nc, ns)))) ∧ (v3 = 4 → (∃ (r14 : Int32) (I15 : Nat → Nat → Int32), ab_C w (d + 2) mt_Roads_apart [.ref kx_roads, .ref kx_now_cables, .int v1, .int v2] (I, L, ab_RR, n, nc, ns) (.inl (some (.int r14)), (I15, L, ab_RR, n, nc, ns)) ∧ res = (.inl (some (.int r14)), (I15, L, ab_RR, n, nc, ns)))) ∧ ((v3.toInt < 0 ∨ 4 < v3.toInt) → (res = (.inr "java/util/NoSuchElementException", (I, L, ab_RR, n, nc + 1, ns + 6)))))) ∨ (∃ E : String, ab_C w (d + 2) mt_K_needSite [.ref kx, .int v2] (I, L, ab_RR, n, nc, ns) (.inr E, (I, L, ab_RR, n, nc + 1, ns + 6)) ∧ res = (.inr E, (I, L, ab_RR, n, nc + 1, ns + 6))))) ∨ (∃ E : String, ab_C w (d + 2) mt_K_needSite [.ref kx, .int v1] (I, L, ab_RR, n, nc, ns) (.inr E, (I, L, ab_RR, n, nc + 1, ns + 6)) ∧ res = (.inr E, (I, L, ab_RR, n, nc + 1, ns + 6))))) : ab_E w (d + 3) mt_K_way 0 [.ref kx, .int v1, .int v2, .int v3] [] (I, L, ab_RR, n, nc, ns) res := by
  refine ab_aload_n (i := 0) d_K_way_0 rfl rfl ?_
  refine ab_iload_n (i := 1) d_K_way_1 rfl rfl ?_
  rcases h with ⟨hC, h⟩ | ⟨E9, hC, h⟩
  · refine ab_callV (me2 := mt_K_needSite) (b := kx) (as := [.int v1]) (st := []) (rv := none) (M2 := (I, L, ab_RR, n, nc, ns)) d_K_way_2 ce_K_needSite v_1124 v_1126 v_49 (by decide) rfl (Nat.le_of_ble_eq_true rfl) hC (Nat.le_refl _) (Nat.le_refl _) hc hs (fun j h9 => by cases h9) (fun _ _ => rfl) ?_
    show ab_E w (d + 3) mt_K_way 5 [.ref kx, .int v1, .int v2, .int v3] [] (I, L, ab_RR, n, nc, ns) res
    refine ab_aload_n (i := 0) d_K_way_5 rfl rfl ?_
    refine ab_iload_n (i := 2) d_K_way_6 rfl rfl ?_
    rcases h with ⟨hC, h⟩ | ⟨E9, hC, h⟩
    · refine ab_callV (me2 := mt_K_needSite) (b := kx) (as := [.int v2]) (st := []) (rv := none) (M2 := (I, L, ab_RR, n, nc, ns)) d_K_way_7 ce_K_needSite v_1124 v_1126 v_49 (by decide) rfl (Nat.le_of_ble_eq_true rfl) hC (Nat.le_refl _) (Nat.le_refl _) hc hs (fun j h9 => by cases h9) (fun _ _ => rfl) ?_
      show ab_E w (d + 3) mt_K_way 10 [.ref kx, .int v1, .int v2, .int v3] [] (I, L, ab_RR, n, nc, ns) res
      refine ab_iload_n (i := 3) d_K_way_10 rfl rfl ?_
      by_cases c16 : v3 = 0
      · have h := h.1 c16
        refine ab_tabIn (tgt := 44) d_K_way_11 (by rw [c16]; decide) (by rw [c16]; decide) (by rw [ab_tab_in (j := 0) c16 (by decide)]; rfl) (by decide) ?_
        refine ab_aload_n (i := 0) d_K_way_44 rfl rfl ?_
        refine ab_iload_n (i := 1) d_K_way_45 rfl rfl ?_
        refine ab_iload_n (i := 2) d_K_way_46 rfl rfl ?_
        by_cases c4 : v1 = v2
        · have h := h.1 c4
          refine ab_callV (me2 := mt_K_narrowOf) (b := kx) (as := [.int v1, .int v2]) (st := []) (rv := (some (.int 0))) (M2 := (I, L, ab_RR, n, nc, ns)) d_K_way_47 ce_K_narrowOf v_1143 v_1145 v_51 (by decide) rfl (Nat.le_of_ble_eq_true rfl) (cx_K_narrowOf_2 v1 v2 hT c4) (Nat.le_refl _) (Nat.le_refl _) hc hs (fun j h9 => by cases h9) (fun _ _ => rfl) ?_
          show ab_E w (d + 3) mt_K_way 50 [.ref kx, .int v1, .int v2, .int v3] [.int 0] (I, L, ab_RR, n, nc, ns) res
          exact ab_iret (ty := .int) d_K_way_50 rfl rfl h
        · have h := h.2 c4
          have g5 := h.1; have h := h.2
          by_cases c6 : (I kx_ways_dearest ((v1 * 10) + v2).toNatClampNeg) = (-1)
          · have h := h.1 c6
            refine ab_callV (me2 := mt_K_narrowOf) (b := kx) (as := [.int v1, .int v2]) (st := []) (rv := (some (.int (-1)))) (M2 := (I, L, ab_RR, n, nc, ns)) d_K_way_47 ce_K_narrowOf v_1143 v_1145 v_51 (by decide) rfl (Nat.le_of_ble_eq_true rfl) (cx_K_narrowOf_1 v1 v2 hT c4 g5 c6) (Nat.le_refl _) (Nat.le_refl _) hc hs (fun j h9 => by cases h9) (fun _ _ => rfl) ?_
            show ab_E w (d + 3) mt_K_way 50 [.ref kx, .int v1, .int v2, .int v3] [.int (-1)] (I, L, ab_RR, n, nc, ns) res
            exact ab_iret (ty := .int) d_K_way_50 rfl rfl h
          · have h := h.2 c6
            have g7 := h.1; have h := h.2
            refine ab_callV (me2 := mt_K_narrowOf) (b := kx) (as := [.int v1, .int v2]) (st := []) (rv := (some (.int (I kx_now_cables_price (I kx_ways_dearest ((v1 * 10) + v2).toNatClampNeg).toNatClampNeg)))) (M2 := (I, L, ab_RR, n, nc, ns)) d_K_way_47 ce_K_narrowOf v_1143 v_1145 v_51 (by decide) rfl (Nat.le_of_ble_eq_true rfl) (cx_K_narrowOf_0 v1 v2 hT c4 g5 c6 g7) (Nat.le_refl _) (Nat.le_refl _) hc hs (fun j h9 => by cases h9) (fun _ _ => rfl) ?_
            show ab_E w (d + 3) mt_K_way 50 [.ref kx, .int v1, .int v2, .int v3] [.int (I kx_now_cables_price (I kx_ways_dearest ((v1 * 10) + v2).toNatClampNeg).toNatClampNeg)] (I, L, ab_RR, n, nc, ns) res
            exact ab_iret (ty := .int) d_K_way_50 rfl rfl h
      by_cases c17 : v3 = 1
      · have h := h.2.1 c17
        refine ab_tabIn (tgt := 51) d_K_way_11 (by rw [c17]; decide) (by rw [c17]; decide) (by rw [ab_tab_in (j := 1) c17 (by decide)]; rfl) (by decide) ?_
        refine ab_aload_n (i := 0) d_K_way_51 rfl rfl ?_
        refine ab_getR (ci := 10) (k := 7) (j := kx_ways) d_K_way_52 v_479 rfl (by decide) (by decide) rfl r_kx_7 ?_
        refine ab_iload_n (i := 1) d_K_way_55 rfl rfl ?_
        refine ab_iload_n (i := 2) d_K_way_56 rfl rfl ?_
        have g9 := h.1; have h := h.2
        refine ab_callV (me2 := mt_Ways_spanOf) (b := kx_ways) (as := [.int v1, .int v2]) (st := []) (rv := (some (.int (I kx_ways_span ((v1 * 10) + v2).toNatClampNeg)))) (M2 := (I, L, ab_RR, n, nc, ns)) d_K_way_57 ce_Ways_spanOf v_1000 v_1001 v_1002 (by decide) rfl (Nat.le_of_ble_eq_true rfl) (cx_Ways_spanOf_0 v1 v2 hT g9) (Nat.le_refl _) (Nat.le_refl _) hc hs (fun j h9 => by cases h9) (fun _ _ => rfl) ?_
        show ab_E w (d + 3) mt_K_way 60 [.ref kx, .int v1, .int v2, .int v3] [.int (I kx_ways_span ((v1 * 10) + v2).toNatClampNeg)] (I, L, ab_RR, n, nc, ns) res
        exact ab_iret (ty := .int) d_K_way_60 rfl rfl h
      by_cases c18 : v3 = 2
      · have h := h.2.2.1 c18
        refine ab_tabIn (tgt := 61) d_K_way_11 (by rw [c18]; decide) (by rw [c18]; decide) (by rw [ab_tab_in (j := 2) c18 (by decide)]; rfl) (by decide) ?_
        refine ab_aload_n (i := 0) d_K_way_61 rfl rfl ?_
        refine ab_getR (ci := 10) (k := 7) (j := kx_ways) d_K_way_62 v_479 rfl (by decide) (by decide) rfl r_kx_7 ?_
        refine ab_iload_n (i := 1) d_K_way_65 rfl rfl ?_
        refine ab_iload_n (i := 2) d_K_way_66 rfl rfl ?_
        have g11 := h.1; have h := h.2
        refine ab_callV (me2 := mt_Ways_cablesBetween) (b := kx_ways) (as := [.int v1, .int v2]) (st := []) (rv := (some (.int (I kx_ways_hops ((v1 * 10) + v2).toNatClampNeg)))) (M2 := (I, L, ab_RR, n, nc, ns)) d_K_way_67 ce_Ways_cablesBetween v_1079 v_1080 v_1081 (by decide) rfl (Nat.le_of_ble_eq_true rfl) (cx_Ways_cablesBetween_0 v1 v2 hT g11) (Nat.le_refl _) (Nat.le_refl _) hc hs (fun j h9 => by cases h9) (fun _ _ => rfl) ?_
        show ab_E w (d + 3) mt_K_way 70 [.ref kx, .int v1, .int v2, .int v3] [.int (I kx_ways_hops ((v1 * 10) + v2).toNatClampNeg)] (I, L, ab_RR, n, nc, ns) res
        exact ab_iret (ty := .int) d_K_way_70 rfl rfl h
      by_cases c19 : v3 = 3
      · have h := h.2.2.2.1 c19
        refine ab_tabIn (tgt := 71) d_K_way_11 (by rw [c19]; decide) (by rw [c19]; decide) (by rw [ab_tab_in (j := 3) c19 (by decide)]; rfl) (by decide) ?_
        refine ab_aload_n (i := 0) d_K_way_71 rfl rfl ?_
        refine ab_getR (ci := 10) (k := 11) (j := kx_roads) d_K_way_72 v_483 rfl (by decide) (by decide) rfl r_kx_11 ?_
        refine ab_aload_n (i := 0) d_K_way_75 rfl rfl ?_
        refine ab_getR (ci := 10) (k := 3) (j := kx_now) d_K_way_76 v_475 rfl (by decide) (by decide) rfl r_kx_3 ?_
        refine ab_getR (ci := 6) (k := 0) (j := kx_now_cables) d_K_way_79 v_294 rfl (by decide) (by decide) rfl r_kx_now_0 ?_
        refine ab_iload_n (i := 1) d_K_way_82 rfl rfl ?_
        refine ab_iload_n (i := 2) d_K_way_83 rfl rfl ?_
        obtain ⟨r12, I13, hC, h⟩ := h
        refine ab_callV (me2 := mt_Roads_shortest) (b := kx_roads) (as := [.ref kx_now_cables, .int v1, .int v2]) (st := []) (rv := (some (.int r12))) (M2 := (I13, L, ab_RR, n, nc, ns)) d_K_way_84 ce_Roads_shortest v_1147 v_1148 v_1149 (by decide) rfl (Nat.le_of_ble_eq_true rfl) hC (Nat.le_refl _) (Nat.le_refl _) hc hs (fun j h9 => by cases h9) (fun _ _ => rfl) ?_
        show ab_E w (d + 3) mt_K_way 87 [.ref kx, .int v1, .int v2, .int v3] [.int r12] (I13, L, ab_RR, n, nc, ns) res
        exact ab_iret (ty := .int) d_K_way_87 rfl rfl h
      by_cases c20 : v3 = 4
      · have h := h.2.2.2.2.1 c20
        refine ab_tabIn (tgt := 88) d_K_way_11 (by rw [c20]; decide) (by rw [c20]; decide) (by rw [ab_tab_in (j := 4) c20 (by decide)]; rfl) (by decide) ?_
        refine ab_aload_n (i := 0) d_K_way_88 rfl rfl ?_
        refine ab_getR (ci := 10) (k := 11) (j := kx_roads) d_K_way_89 v_483 rfl (by decide) (by decide) rfl r_kx_11 ?_
        refine ab_aload_n (i := 0) d_K_way_92 rfl rfl ?_
        refine ab_getR (ci := 10) (k := 3) (j := kx_now) d_K_way_93 v_475 rfl (by decide) (by decide) rfl r_kx_3 ?_
        refine ab_getR (ci := 6) (k := 0) (j := kx_now_cables) d_K_way_96 v_294 rfl (by decide) (by decide) rfl r_kx_now_0 ?_
        refine ab_iload_n (i := 1) d_K_way_99 rfl rfl ?_
        refine ab_iload_n (i := 2) d_K_way_100 rfl rfl ?_
        obtain ⟨r14, I15, hC, h⟩ := h
        refine ab_callV (me2 := mt_Roads_apart) (b := kx_roads) (as := [.ref kx_now_cables, .int v1, .int v2]) (st := []) (rv := (some (.int r14))) (M2 := (I15, L, ab_RR, n, nc, ns)) d_K_way_101 ce_Roads_apart v_1155 v_1156 v_1157 (by decide) rfl (Nat.le_of_ble_eq_true rfl) hC (Nat.le_refl _) (Nat.le_refl _) hc hs (fun j h9 => by cases h9) (fun _ _ => rfl) ?_
        show ab_E w (d + 3) mt_K_way 104 [.ref kx, .int v1, .int v2, .int v3] [.int r14] (I15, L, ab_RR, n, nc, ns) res
        exact ab_iret (ty := .int) d_K_way_104 rfl rfl h
      have hr : v3.toInt < 0 ∨ 4 < v3.toInt := by
        rcases Int.lt_or_le v3.toInt 0 with h9 | h9
        · exact Or.inl h9
        · refine Or.inr (Int.not_le.mp fun h8 => ?_)
          exact ab_tab_out (lo := 0) (hi := 4) (k := 5) h9 h8 (by decide) (by
            intro j hj
            match j, hj with
            | 0, _ => exact c16
            | 1, _ => exact c17
            | 2, _ => exact c18
            | 3, _ => exact c19
            | 4, _ => exact c20
            | j9 + 5, hj => exact absurd hj (by omega))
      have h := h.2.2.2.2.2 hr
      refine ab_tabOut (tgt := 105) d_K_way_11 hr (by decide) ?_
      exact ab_throw (E := "java/util/NoSuchElementException") d_K_way_105 d_K_way_108 d_K_way_109 d_K_way_112 (by decide +kernel) rfl v_1049 v_163 x3_K_185 x4_K_185 h8 (Nat.le_of_ble_eq_true rfl) h
    · exact ab_callVX (me2 := mt_K_needSite) (b := kx) (as := [.int v2]) (st := []) (M2 := (I, L, ab_RR, n, nc + 1, ns + 6)) rfl d_K_way_7 ce_K_needSite v_1124 v_1126 v_49 (by decide) rfl (Nat.le_of_ble_eq_true rfl) hC (Nat.le_succ _) (Nat.le_add_right _ _) (fun _ _ => rfl) h
  · exact ab_callVX (me2 := mt_K_needSite) (b := kx) (as := [.int v1]) (st := []) (M2 := (I, L, ab_RR, n, nc + 1, ns + 6)) rfl d_K_way_2 ce_K_needSite v_1124 v_1126 v_49 (by decide) rfl (Nat.le_of_ble_eq_true rfl) hC (Nat.le_succ _) (Nat.le_add_right _ _) (fun _ _ => rfl) h
theorem cx_K_isFirm_0 {w : ab_Wd} {d n nc ns : Nat} {I : Nat → Nat → Int32} {L : Nat → Nat → Int64} (v0 : Int32) (hT : w.1.stackTraces = false) (e1 : v0 < 0) : ab_C w d mt_K_isFirm [.int v0] (I, L, ab_RR, n, nc, ns) (.inl (some (.int 0)), (I, L, ab_RR, n, nc, ns)) := by
  refine ab_C_of (by decide) rfl (Nat.le_of_ble_eq_true rfl) hT ?_
  have hc := Nat.le_refl nc
  have hs := Nat.le_refl ns
  refine ab_iload_n (i := 0) d_K_isFirm_0 rfl rfl ?_
  refine ab_if_lt (tgt := 13) d_K_isFirm_1 (by decide) (fun _ => ?_) (fun c9 => absurd e1 c9)
  refine ab_iconst (v := 0) d_K_isFirm_13 rfl ?_
  exact ab_iret (ty := .boolean) d_K_isFirm_14 rfl rfl rfl
theorem cx_K_isFirm_1 {w : ab_Wd} {d n nc ns : Nat} {I : Nat → Nat → Int32} {L : Nat → Nat → Int64} (v0 : Int32) (hT : w.1.stackTraces = false) (e1 : ¬ v0 < 0) (e2 : 4 ≤ v0) : ab_C w d mt_K_isFirm [.int v0] (I, L, ab_RR, n, nc, ns) (.inl (some (.int 0)), (I, L, ab_RR, n, nc, ns)) := by
  refine ab_C_of (by decide) rfl (Nat.le_of_ble_eq_true rfl) hT ?_
  have hc := Nat.le_refl nc
  have hs := Nat.le_refl ns
  refine ab_iload_n (i := 0) d_K_isFirm_0 rfl rfl ?_
  refine ab_if_lt (tgt := 13) d_K_isFirm_1 (by decide) (fun c9 => absurd c9 e1) (fun _ => ?_)
  refine ab_iload_n (i := 0) d_K_isFirm_4 rfl rfl ?_
  refine ab_iconst (v := 4) d_K_isFirm_5 rfl ?_
  refine ab_icmp_ge (tgt := 13) d_K_isFirm_6 (by decide) (fun _ => ?_) (fun c9 => absurd e2 c9)
  refine ab_iconst (v := 0) d_K_isFirm_13 rfl ?_
  exact ab_iret (ty := .boolean) d_K_isFirm_14 rfl rfl rfl
theorem cx_K_isFirm_2 {w : ab_Wd} {d n nc ns : Nat} {I : Nat → Nat → Int32} {L : Nat → Nat → Int64} (v0 : Int32) (hT : w.1.stackTraces = false) (e1 : ¬ v0 < 0) (e2 : ¬ 4 ≤ v0) : ab_C w d mt_K_isFirm [.int v0] (I, L, ab_RR, n, nc, ns) (.inl (some (.int 1)), (I, L, ab_RR, n, nc, ns)) := by
  refine ab_C_of (by decide) rfl (Nat.le_of_ble_eq_true rfl) hT ?_
  have hc := Nat.le_refl nc
  have hs := Nat.le_refl ns
  refine ab_iload_n (i := 0) d_K_isFirm_0 rfl rfl ?_
  refine ab_if_lt (tgt := 13) d_K_isFirm_1 (by decide) (fun c9 => absurd c9 e1) (fun _ => ?_)
  refine ab_iload_n (i := 0) d_K_isFirm_4 rfl rfl ?_
  refine ab_iconst (v := 4) d_K_isFirm_5 rfl ?_
  refine ab_icmp_ge (tgt := 13) d_K_isFirm_6 (by decide) (fun c9 => absurd c9 e2) (fun _ => ?_)
  refine ab_iconst (v := 1) d_K_isFirm_9 rfl ?_
  refine ab_goto (tgt := 14) d_K_isFirm_10 (by decide) ?_
  exact ab_iret (ty := .boolean) d_K_isFirm_14 rfl rfl rfl
theorem r_K_firm_0 {w : ab_Wd} {d n nc ns : Nat} {I : Nat → Nat → Int32} {L : Nat → Nat → Int64} {res : ab_Re} (hT : w.1.stackTraces = false) (v1 : Int32) (v2 : Int32) (h8 : 8 ≤ (d + 1)) (hc : nc ≤ res.2.2.2.2.2.1) (hs : ns ≤ res.2.2.2.2.2.2)
    (h : ((v1 < 0 → (res = (.inr "java/util/NoSuchElementException", (I, L, ab_RR, n, nc + 1, ns + 6)))) ∧ (¬ v1 < 0 → ((4 ≤ v1 → (res = (.inr "java/util/NoSuchElementException", (I, L, ab_RR, n, nc + 1, ns + 6)))) ∧ (¬ 4 ≤ v1 → (∃ (r4 : Int32), ab_C w d mt_Cables_ofFirm [.ref kx_now_cables, .int v1] (I, L, ab_RR, n, nc, ns) (.inl (some (.int r4)), (I, L, ab_RR, n, nc, ns)) ∧ ((v2 = 0 → (res = (.inl (some (.int (r4 &&& (I kx_now_cables 2)))), (I, L, ab_RR, n, nc, ns)))) ∧ (v2 = 1 → (∃ (r5 : Int32), ab_C w d mt_Cables_pricesOf [.ref kx_now_cables, .int (r4 &&& (I kx_forest 2))] (I, L, ab_RR, n, nc, ns) (.inl (some (.int r5)), (I, L, ab_RR, n, nc, ns)) ∧ res = (.inl (some (.int r5)), (I, L, ab_RR, n, nc, ns)))) ∧ (v2 = 2 → (∃ (r6 : Int32) (I7 : Nat → Nat → Int32), ab_C w d mt_K_payOf [.ref kx, .int r4] (I, L, ab_RR, n, nc, ns) (.inl (some (.int r6)), (I7, L, ab_RR, n, nc, ns)) ∧ res = (.inl (some (.int r6)), (I7, L, ab_RR, n, nc, ns)))) ∧ ((v2.toInt < 0 ∨ 2 < v2.toInt) → (res = (.inr "java/util/NoSuchElementException", (I, L, ab_RR, n, nc + 1, ns + 6))))))))))) : ab_E w (d + 1) mt_K_firm 0 [.ref kx, .int v1, .int v2, .null] [] (I, L, ab_RR, n, nc, ns) res := by
  refine ab_iload_n (i := 1) d_K_firm_0 rfl rfl ?_
  by_cases c2 : v1 < 0
  · have h := h.1 c2
    refine ab_callS (me2 := mt_K_isFirm) (as := [.int v1]) (st := []) (rv := (some (.int 0))) (M2 := (I, L, ab_RR, n, nc, ns)) d_K_firm_1 ce_K_isFirm ⟨v_611, Or.inl v_610⟩ (Nat.le_of_ble_eq_true rfl) (cx_K_isFirm_0 v1 hT c2) (Nat.le_refl _) (Nat.le_refl _) hc hs (fun j h9 => by cases h9) (fun _ _ => rfl) ?_
    show ab_E w (d + 1) mt_K_firm 4 [.ref kx, .int v1, .int v2, .null] [.int 0] (I, L, ab_RR, n, nc, ns) res
    refine ab_if_ne (tgt := 15) d_K_firm_4 (by decide) (fun c9 => absurd (show (0 : Int32) = 0 from by decide) c9) (fun _ => ?_)
    exact ab_throw (E := "java/util/NoSuchElementException") d_K_firm_7 d_K_firm_10 d_K_firm_11 d_K_firm_14 (by decide +kernel) rfl v_1049 v_163 x3_K_185 x4_K_185 h8 (Nat.le_of_ble_eq_true rfl) h
  · have h := h.2 c2
    by_cases c3 : 4 ≤ v1
    · have h := h.1 c3
      refine ab_callS (me2 := mt_K_isFirm) (as := [.int v1]) (st := []) (rv := (some (.int 0))) (M2 := (I, L, ab_RR, n, nc, ns)) d_K_firm_1 ce_K_isFirm ⟨v_611, Or.inl v_610⟩ (Nat.le_of_ble_eq_true rfl) (cx_K_isFirm_1 v1 hT c2 c3) (Nat.le_refl _) (Nat.le_refl _) hc hs (fun j h9 => by cases h9) (fun _ _ => rfl) ?_
      show ab_E w (d + 1) mt_K_firm 4 [.ref kx, .int v1, .int v2, .null] [.int 0] (I, L, ab_RR, n, nc, ns) res
      refine ab_if_ne (tgt := 15) d_K_firm_4 (by decide) (fun c9 => absurd (show (0 : Int32) = 0 from by decide) c9) (fun _ => ?_)
      exact ab_throw (E := "java/util/NoSuchElementException") d_K_firm_7 d_K_firm_10 d_K_firm_11 d_K_firm_14 (by decide +kernel) rfl v_1049 v_163 x3_K_185 x4_K_185 h8 (Nat.le_of_ble_eq_true rfl) h
    · have h := h.2 c3
      refine ab_callS (me2 := mt_K_isFirm) (as := [.int v1]) (st := []) (rv := (some (.int 1))) (M2 := (I, L, ab_RR, n, nc, ns)) d_K_firm_1 ce_K_isFirm ⟨v_611, Or.inl v_610⟩ (Nat.le_of_ble_eq_true rfl) (cx_K_isFirm_2 v1 hT c2 c3) (Nat.le_refl _) (Nat.le_refl _) hc hs (fun j h9 => by cases h9) (fun _ _ => rfl) ?_
      show ab_E w (d + 1) mt_K_firm 4 [.ref kx, .int v1, .int v2, .null] [.int 1] (I, L, ab_RR, n, nc, ns) res
      refine ab_if_ne (tgt := 15) d_K_firm_4 (by decide) (fun _ => ?_) (fun c9 => absurd c9 (show ¬ (1 : Int32) = 0 from by decide))
      refine ab_aload_n (i := 0) d_K_firm_15 rfl rfl ?_
      refine ab_getR (ci := 10) (k := 3) (j := kx_now) d_K_firm_16 v_475 rfl (by decide) (by decide) rfl r_kx_3 ?_
      refine ab_getR (ci := 6) (k := 0) (j := kx_now_cables) d_K_firm_19 v_294 rfl (by decide) (by decide) rfl r_kx_now_0 ?_
      refine ab_iload_n (i := 1) d_K_firm_22 rfl rfl ?_
      obtain ⟨r4, hC, h⟩ := h
      refine ab_callV (me2 := mt_Cables_ofFirm) (b := kx_now_cables) (as := [.int v1]) (st := []) (rv := (some (.int r4))) (M2 := (I, L, ab_RR, n, nc, ns)) d_K_firm_23 ce_Cables_ofFirm v_613 v_614 v_615 (by decide) rfl (Nat.le_of_ble_eq_true rfl) hC (Nat.le_refl _) (Nat.le_refl _) hc hs (fun j h9 => by cases h9) (fun _ _ => rfl) ?_
      show ab_E w (d + 1) mt_K_firm 26 [.ref kx, .int v1, .int v2, .null] [.int r4] (I, L, ab_RR, n, nc, ns) res
      refine ab_istore_n (i := 3) d_K_firm_26 rfl (by decide) (Or.inr rfl) ?_
      refine ab_iload_n (i := 2) d_K_firm_27 rfl rfl ?_
      by_cases c8 : v2 = 0
      · have h := h.1 c8
        refine ab_tabIn (tgt := 56) d_K_firm_28 (by rw [c8]; decide) (by rw [c8]; decide) (by rw [ab_tab_in (j := 0) c8 (by decide)]; rfl) (by decide) ?_
        refine ab_iload_n (i := 3) d_K_firm_56 rfl rfl ?_
        refine ab_aload_n (i := 0) d_K_firm_57 rfl rfl ?_
        refine ab_getR (ci := 10) (k := 3) (j := kx_now) d_K_firm_58 v_475 rfl (by decide) (by decide) rfl r_kx_3 ?_
        refine ab_getR (ci := 6) (k := 0) (j := kx_now_cables) d_K_firm_61 v_294 rfl (by decide) (by decide) rfl r_kx_now_0 ?_
        refine ab_getI (ci := 1) (k := 2) d_K_firm_64 v_202 rfl (by decide) (by decide) rfl ?_
        refine ab_iand d_K_firm_67 ?_
        exact ab_iret (ty := .int) d_K_firm_68 rfl rfl h
      by_cases c9 : v2 = 1
      · have h := h.2.1 c9
        refine ab_tabIn (tgt := 69) d_K_firm_28 (by rw [c9]; decide) (by rw [c9]; decide) (by rw [ab_tab_in (j := 1) c9 (by decide)]; rfl) (by decide) ?_
        refine ab_aload_n (i := 0) d_K_firm_69 rfl rfl ?_
        refine ab_getR (ci := 10) (k := 3) (j := kx_now) d_K_firm_70 v_475 rfl (by decide) (by decide) rfl r_kx_3 ?_
        refine ab_getR (ci := 6) (k := 0) (j := kx_now_cables) d_K_firm_73 v_294 rfl (by decide) (by decide) rfl r_kx_now_0 ?_
        refine ab_iload_n (i := 3) d_K_firm_76 rfl rfl ?_
        refine ab_aload_n (i := 0) d_K_firm_77 rfl rfl ?_
        refine ab_getR (ci := 10) (k := 6) (j := kx_forest) d_K_firm_78 v_478 rfl (by decide) (by decide) rfl r_kx_6 ?_
        refine ab_getI (ci := 2) (k := 2) d_K_firm_81 v_335 rfl (by decide) (by decide) rfl ?_
        refine ab_iand d_K_firm_84 ?_
        obtain ⟨r5, hC, h⟩ := h
        refine ab_callV (me2 := mt_Cables_pricesOf) (b := kx_now_cables) (as := [.int (r4 &&& (I kx_forest 2))]) (st := []) (rv := (some (.int r5))) (M2 := (I, L, ab_RR, n, nc, ns)) d_K_firm_85 ce_Cables_pricesOf v_1179 v_1180 v_1181 (by decide) rfl (Nat.le_of_ble_eq_true rfl) hC (Nat.le_refl _) (Nat.le_refl _) hc hs (fun j h9 => by cases h9) (fun _ _ => rfl) ?_
        show ab_E w (d + 1) mt_K_firm 88 [.ref kx, .int v1, .int v2, .int r4] [.int r5] (I, L, ab_RR, n, nc, ns) res
        exact ab_iret (ty := .int) d_K_firm_88 rfl rfl h
      by_cases c10 : v2 = 2
      · have h := h.2.2.1 c10
        refine ab_tabIn (tgt := 89) d_K_firm_28 (by rw [c10]; decide) (by rw [c10]; decide) (by rw [ab_tab_in (j := 2) c10 (by decide)]; rfl) (by decide) ?_
        refine ab_aload_n (i := 0) d_K_firm_89 rfl rfl ?_
        refine ab_iload_n (i := 3) d_K_firm_90 rfl rfl ?_
        obtain ⟨r6, I7, hC, h⟩ := h
        refine ab_callV (me2 := mt_K_payOf) (b := kx) (as := [.int r4]) (st := []) (rv := (some (.int r6))) (M2 := (I7, L, ab_RR, n, nc, ns)) d_K_firm_91 ce_K_payOf v_1183 v_1185 v_55 (by decide) rfl (Nat.le_of_ble_eq_true rfl) hC (Nat.le_refl _) (Nat.le_refl _) hc hs (fun j h9 => by cases h9) (fun _ _ => rfl) ?_
        show ab_E w (d + 1) mt_K_firm 94 [.ref kx, .int v1, .int v2, .int r4] [.int r6] (I7, L, ab_RR, n, nc, ns) res
        exact ab_iret (ty := .int) d_K_firm_94 rfl rfl h
      have hr : v2.toInt < 0 ∨ 2 < v2.toInt := by
        rcases Int.lt_or_le v2.toInt 0 with h9 | h9
        · exact Or.inl h9
        · refine Or.inr (Int.not_le.mp fun h8 => ?_)
          exact ab_tab_out (lo := 0) (hi := 2) (k := 3) h9 h8 (by decide) (by
            intro j hj
            match j, hj with
            | 0, _ => exact c8
            | 1, _ => exact c9
            | 2, _ => exact c10
            | j9 + 3, hj => exact absurd hj (by omega))
      have h := h.2.2.2 hr
      refine ab_tabOut (tgt := 95) d_K_firm_28 hr (by decide) ?_
      exact ab_throw (E := "java/util/NoSuchElementException") d_K_firm_95 d_K_firm_98 d_K_firm_99 d_K_firm_102 (by decide +kernel) rfl v_1049 v_163 x3_K_185 x4_K_185 h8 (Nat.le_of_ble_eq_true rfl) h
theorem r_K_share_0 {w : ab_Wd} {d n nc ns : Nat} {I : Nat → Nat → Int32} {L : Nat → Nat → Int64} {res : ab_Re} (hT : w.1.stackTraces = false) (v1 : Int32) (hc : nc ≤ res.2.2.2.2.2.1) (hs : ns ≤ res.2.2.2.2.2.2)
    (h : ((ab_C w (d + 1) mt_K_needSite [.ref kx, .int v1] (I, L, ab_RR, n, nc, ns) (.inl none, (I, L, ab_RR, n, nc, ns)) ∧ ((¬ v1 = 0 → ((vp_in ((v1 * 10) + 0) 100) ∧ ((¬ (I kx_ways_step ((v1 * 10) + 0).toNatClampNeg) = (-1) → ((vp_in (I kx_ways_step ((v1 * 10) + 0).toNatClampNeg) 24) ∧ res = (.inl (some (.int (I kx_now_cables_price (I kx_ways_step ((v1 * 10) + 0).toNatClampNeg).toNatClampNeg))), (I, L, ab_RR, n, nc, ns)))) ∧ ((I kx_ways_step ((v1 * 10) + 0).toNatClampNeg) = (-1) → (res = (.inl (some (.int (-1))), (I, L, ab_RR, n, nc, ns))))))) ∧ (v1 = 0 → (res = (.inl (some (.int 0)), (I, L, ab_RR, n, nc, ns)))))) ∨ (∃ E : String, ab_C w (d + 1) mt_K_needSite [.ref kx, .int v1] (I, L, ab_RR, n, nc, ns) (.inr E, (I, L, ab_RR, n, nc + 1, ns + 6)) ∧ res = (.inr E, (I, L, ab_RR, n, nc + 1, ns + 6))))) : ab_E w (d + 2) mt_K_share 0 [.ref kx, .int v1, .null] [] (I, L, ab_RR, n, nc, ns) res := by
  refine ab_aload_n (i := 0) d_K_share_0 rfl rfl ?_
  refine ab_iload_n (i := 1) d_K_share_1 rfl rfl ?_
  rcases h with ⟨hC, h⟩ | ⟨E9, hC, h⟩
  · refine ab_callV (me2 := mt_K_needSite) (b := kx) (as := [.int v1]) (st := []) (rv := none) (M2 := (I, L, ab_RR, n, nc, ns)) d_K_share_2 ce_K_needSite v_1124 v_1126 v_49 (by decide) rfl (Nat.le_of_ble_eq_true rfl) hC (Nat.le_refl _) (Nat.le_refl _) hc hs (fun j h9 => by cases h9) (fun _ _ => rfl) ?_
    show ab_E w (d + 2) mt_K_share 5 [.ref kx, .int v1, .null] [] (I, L, ab_RR, n, nc, ns) res
    refine ab_iload_n (i := 1) d_K_share_5 rfl rfl ?_
    refine ab_if_ne (tgt := 11) d_K_share_6 (by decide) (fun c2 => ?_) (fun c2 => ?_)
    · have h := h.1 c2
      refine ab_aload_n (i := 0) d_K_share_11 rfl rfl ?_
      refine ab_getR (ci := 10) (k := 7) (j := kx_ways) d_K_share_12 v_479 rfl (by decide) (by decide) rfl r_kx_7 ?_
      refine ab_iload_n (i := 1) d_K_share_15 rfl rfl ?_
      refine ab_iconst (v := 0) d_K_share_16 rfl ?_
      have g4 := h.1; have h := h.2
      refine ab_callV (me2 := mt_Ways_firstCable) (b := kx_ways) (as := [.int v1, .int 0]) (st := []) (rv := (some (.int (I kx_ways_step ((v1 * 10) + 0).toNatClampNeg)))) (M2 := (I, L, ab_RR, n, nc, ns)) d_K_share_17 ce_Ways_firstCable v_1004 v_1005 v_1006 (by decide) rfl (Nat.le_of_ble_eq_true rfl) (cx_Ways_firstCable_0 v1 0 hT g4) (Nat.le_refl _) (Nat.le_refl _) hc hs (fun j h9 => by cases h9) (fun _ _ => rfl) ?_
      show ab_E w (d + 2) mt_K_share 20 [.ref kx, .int v1, .null] [.int (I kx_ways_step ((v1 * 10) + 0).toNatClampNeg)] (I, L, ab_RR, n, nc, ns) res
      refine ab_istore_n (i := 2) d_K_share_20 rfl (by decide) (Or.inr rfl) ?_
      refine ab_iload_n (i := 2) d_K_share_21 rfl rfl ?_
      refine ab_iconst (v := (-1)) d_K_share_22 rfl ?_
      refine ab_icmp_ne (tgt := 30) d_K_share_23 (by decide) (fun c5 => ?_) (fun c5 => ?_)
      · have h := h.1 c5
        refine ab_aload_n (i := 0) d_K_share_30 rfl rfl ?_
        refine ab_getR (ci := 10) (k := 3) (j := kx_now) d_K_share_31 v_475 rfl (by decide) (by decide) rfl r_kx_3 ?_
        refine ab_getR (ci := 6) (k := 0) (j := kx_now_cables) d_K_share_34 v_294 rfl (by decide) (by decide) rfl r_kx_now_0 ?_
        refine ab_getR (ci := 1) (k := 5) (j := kx_now_cables_price) d_K_share_37 v_224 rfl (by decide) (by decide) rfl r_kx_now_cables_5 ?_
        refine ab_iload_n (i := 2) d_K_share_40 rfl rfl ?_
        have g6 := h.1; have h := h.2
        refine ab_iald d_K_share_41 rfl rfl g6 ?_
        exact ab_iret (ty := .int) d_K_share_42 rfl rfl h
      · have h := h.2 c5
        refine ab_iconst (v := (-1)) d_K_share_26 rfl ?_
        refine ab_goto (tgt := 42) d_K_share_27 (by decide) ?_
        exact ab_iret (ty := .int) d_K_share_42 rfl rfl h
    · have h := h.2 c2
      refine ab_iconst (v := 0) d_K_share_9 rfl ?_
      exact ab_iret (ty := .int) d_K_share_10 rfl rfl h
  · exact ab_callVX (me2 := mt_K_needSite) (b := kx) (as := [.int v1]) (st := []) (M2 := (I, L, ab_RR, n, nc + 1, ns + 6)) rfl d_K_share_2 ce_K_needSite v_1124 v_1126 v_49 (by decide) rfl (Nat.le_of_ble_eq_true rfl) hC (Nat.le_succ _) (Nat.le_add_right _ _) (fun _ _ => rfl) h
theorem r_K_group_0 {w : ab_Wd} {d n nc ns : Nat} {I : Nat → Nat → Int32} {L : Nat → Nat → Int64} {res : ab_Re} (hT : w.1.stackTraces = false) (v1 : Int32) (v2 : Int32) (h8 : 8 ≤ (d + 1)) (hc : nc ≤ res.2.2.2.2.2.1) (hs : ns ≤ res.2.2.2.2.2.2)
    (h : ((v1 < 1 → (res = (.inr "java/lang/IllegalArgumentException", (I, L, ab_RR, n, nc + 1, ns + 6)))) ∧ (¬ v1 < 1 → ((v1 ≤ (I kx_now_cables 0) → ((¬ v2 = (-1) → ((ab_C w d mt_K_needSite [.ref kx, .int v2] (I, L, ab_RR, n, nc, ns) (.inl none, (I, L, ab_RR, n, nc, ns)) ∧ (∃ (r5 : Int32), ab_C w d mt_Forest_cheapest [.ref kx_forest, .int (ab_min32 (I kx_forest 1) ((I kx_now_cables 0) - v1))] (I, L, ab_RR, n, nc, ns) (.inl (some (.int r5)), (I, L, ab_RR, n, nc, ns)) ∧ ∃ (I7 : Nat → Nat → Int32), ab_C w d mt_Forest_grow [.ref kx_trialNet, .ref kx_now_cables, .int r5] (I, L, ab_RR, n, nc, ns) (.inl none, (I7, L, ab_RR, n, nc, ns)) ∧ (vp_in v2 10) ∧ res = (.inl (some (.int (I7 kx_trialNet_piece v2.toNatClampNeg))), (I7, L, ab_RR, n, nc, ns)))) ∨ (∃ E : String, ab_C w d mt_K_needSite [.ref kx, .int v2] (I, L, ab_RR, n, nc, ns) (.inr E, (I, L, ab_RR, n, nc + 1, ns + 6)) ∧ res = (.inr E, (I, L, ab_RR, n, nc + 1, ns + 6))))) ∧ (v2 = (-1) → ((¬ (ab_min32 (I kx_forest 1) ((I kx_now_cables 0) - v1)) = (I kx_forest 1) → ((vp_in (ab_min32 (I kx_forest 1) ((I kx_now_cables 0) - v1)) 9) ∧ (vp_in (I kx_forest_order (ab_min32 (I kx_forest 1) ((I kx_now_cables 0) - v1)).toNatClampNeg) 24) ∧ res = (.inl (some (.int (I kx_now_cables_price (I kx_forest_order (ab_min32 (I kx_forest 1) ((I kx_now_cables 0) - v1)).toNatClampNeg).toNatClampNeg))), (I, L, ab_RR, n, nc, ns)))) ∧ ((ab_min32 (I kx_forest 1) ((I kx_now_cables 0) - v1)) = (I kx_forest 1) → (res = (.inl (some (.int 0)), (I, L, ab_RR, n, nc, ns)))))))) ∧ (¬ v1 ≤ (I kx_now_cables 0) → (res = (.inr "java/lang/IllegalArgumentException", (I, L, ab_RR, n, nc + 1, ns + 6)))))))) : ab_E w (d + 1) mt_K_group 0 [.ref kx, .int v1, .int v2, .null, .null] [] (I, L, ab_RR, n, nc, ns) res := by
  refine ab_aload_n (i := 0) d_K_group_0 rfl rfl ?_
  refine ab_getR (ci := 10) (k := 3) (j := kx_now) d_K_group_1 v_475 rfl (by decide) (by decide) rfl r_kx_3 ?_
  refine ab_getR (ci := 6) (k := 0) (j := kx_now_cables) d_K_group_4 v_294 rfl (by decide) (by decide) rfl r_kx_now_0 ?_
  refine ab_astore_n (i := 3) d_K_group_7 rfl (by decide) (Or.inr rfl) ?_
  refine ab_iload_n (i := 1) d_K_group_8 rfl rfl ?_
  refine ab_iconst (v := 1) d_K_group_9 rfl ?_
  refine ab_icmp_lt (tgt := 21) d_K_group_10 (by decide) (fun c1 => ?_) (fun c1 => ?_)
  · have h := h.1 c1
    exact ab_throw (E := "java/lang/IllegalArgumentException") d_K_group_21 d_K_group_24 d_K_group_25 d_K_group_28 (by decide +kernel) rfl v_698 v_155 x3_K_92 x4_K_92 h8 (Nat.le_of_ble_eq_true rfl) h
  · have h := h.2 c1
    refine ab_iload_n (i := 1) d_K_group_13 rfl rfl ?_
    refine ab_aload_n (i := 3) d_K_group_14 rfl rfl ?_
    refine ab_getI (ci := 1) (k := 0) d_K_group_15 v_190 rfl (by decide) (by decide) rfl ?_
    refine ab_icmp_le (tgt := 29) d_K_group_18 (by decide) (fun c2 => ?_) (fun c2 => ?_)
    · have h := h.1 c2
      refine ab_aload_n (i := 0) d_K_group_29 rfl rfl ?_
      refine ab_getR (ci := 10) (k := 6) (j := kx_forest) d_K_group_30 v_478 rfl (by decide) (by decide) rfl r_kx_6 ?_
      refine ab_getI (ci := 2) (k := 1) d_K_group_33 v_333 rfl (by decide) (by decide) rfl ?_
      refine ab_aload_n (i := 3) d_K_group_36 rfl rfl ?_
      refine ab_getI (ci := 1) (k := 0) d_K_group_37 v_190 rfl (by decide) (by decide) rfl ?_
      refine ab_iload_n (i := 1) d_K_group_40 rfl rfl ?_
      refine ab_isub d_K_group_41 ?_
      refine ab_min d_K_group_42 v_447 v_448 v_150 v_449 (Nat.succ_le_succ (Nat.zero_le _)) (Nat.le_of_ble_eq_true rfl) hc hs ?_
      refine ab_istore (i := 4) d_K_group_45 (by decide) (Or.inr rfl) ?_
      refine ab_iload_n (i := 2) d_K_group_47 rfl rfl ?_
      refine ab_iconst (v := (-1)) d_K_group_48 rfl ?_
      refine ab_icmp_ne (tgt := 84) d_K_group_49 (by decide) (fun c3 => ?_) (fun c3 => ?_)
      · have h := h.1 c3
        refine ab_aload_n (i := 0) d_K_group_84 rfl rfl ?_
        refine ab_iload_n (i := 2) d_K_group_85 rfl rfl ?_
        rcases h with ⟨hC, h⟩ | ⟨E9, hC, h⟩
        · refine ab_callV (me2 := mt_K_needSite) (b := kx) (as := [.int v2]) (st := []) (rv := none) (M2 := (I, L, ab_RR, n, nc, ns)) d_K_group_86 ce_K_needSite v_1124 v_1126 v_49 (by decide) rfl (Nat.le_of_ble_eq_true rfl) hC (Nat.le_refl _) (Nat.le_refl _) hc hs (fun j h9 => by cases h9) (fun _ _ => rfl) ?_
          show ab_E w (d + 1) mt_K_group 89 [.ref kx, .int v1, .int v2, .ref kx_now_cables, .int (ab_min32 (I kx_forest 1) ((I kx_now_cables 0) - v1))] [] (I, L, ab_RR, n, nc, ns) res
          refine ab_aload_n (i := 0) d_K_group_89 rfl rfl ?_
          refine ab_getR (ci := 10) (k := 9) (j := kx_trialNet) d_K_group_90 v_481 rfl (by decide) (by decide) rfl r_kx_9 ?_
          refine ab_aload_n (i := 3) d_K_group_93 rfl rfl ?_
          refine ab_aload_n (i := 0) d_K_group_94 rfl rfl ?_
          refine ab_getR (ci := 10) (k := 6) (j := kx_forest) d_K_group_95 v_478 rfl (by decide) (by decide) rfl r_kx_6 ?_
          refine ab_iload (i := 4) d_K_group_98 rfl ?_
          obtain ⟨r5, hC, h⟩ := h
          refine ab_callV (me2 := mt_Forest_cheapest) (b := kx_forest) (as := [.int (ab_min32 (I kx_forest 1) ((I kx_now_cables 0) - v1))]) (st := [.ref kx_now_cables, .ref kx_trialNet]) (rv := (some (.int r5))) (M2 := (I, L, ab_RR, n, nc, ns)) d_K_group_100 ce_Forest_cheapest v_1201 v_1202 v_1203 (by decide) rfl (Nat.le_of_ble_eq_true rfl) hC (Nat.le_refl _) (Nat.le_refl _) hc hs (fun j h9 => by cases h9) (fun _ _ => rfl) ?_
          show ab_E w (d + 1) mt_K_group 103 [.ref kx, .int v1, .int v2, .ref kx_now_cables, .int (ab_min32 (I kx_forest 1) ((I kx_now_cables 0) - v1))] [.int r5, .ref kx_now_cables, .ref kx_trialNet] (I, L, ab_RR, n, nc, ns) res
          obtain ⟨I7, hC, h⟩ := h
          refine ab_callV (me2 := mt_Forest_grow) (b := kx_trialNet) (as := [.ref kx_now_cables, .int r5]) (st := []) (rv := none) (M2 := (I7, L, ab_RR, n, nc, ns)) d_K_group_103 ce_Forest_grow v_440 v_441 v_442 (by decide) rfl (Nat.le_of_ble_eq_true rfl) hC (Nat.le_refl _) (Nat.le_refl _) hc hs (fun j h9 => by cases h9) (fun _ _ => rfl) ?_
          show ab_E w (d + 1) mt_K_group 106 [.ref kx, .int v1, .int v2, .ref kx_now_cables, .int (ab_min32 (I kx_forest 1) ((I kx_now_cables 0) - v1))] [] (I7, L, ab_RR, n, nc, ns) res
          refine ab_aload_n (i := 0) d_K_group_106 rfl rfl ?_
          refine ab_getR (ci := 10) (k := 9) (j := kx_trialNet) d_K_group_107 v_481 rfl (by decide) (by decide) rfl r_kx_9 ?_
          refine ab_getR (ci := 2) (k := 5) (j := kx_trialNet_piece) d_K_group_110 v_341 rfl (by decide) (by decide) rfl r_kx_trialNet_5 ?_
          refine ab_iload_n (i := 2) d_K_group_113 rfl rfl ?_
          have g8 := h.1; have h := h.2
          refine ab_iald d_K_group_114 rfl rfl g8 ?_
          exact ab_iret (ty := .int) d_K_group_115 rfl rfl h
        · exact ab_callVX (me2 := mt_K_needSite) (b := kx) (as := [.int v2]) (st := []) (M2 := (I, L, ab_RR, n, nc + 1, ns + 6)) rfl d_K_group_86 ce_K_needSite v_1124 v_1126 v_49 (by decide) rfl (Nat.le_of_ble_eq_true rfl) hC (Nat.le_succ _) (Nat.le_add_right _ _) (fun _ _ => rfl) h
      · have h := h.2 c3
        refine ab_iload (i := 4) d_K_group_52 rfl ?_
        refine ab_aload_n (i := 0) d_K_group_54 rfl rfl ?_
        refine ab_getR (ci := 10) (k := 6) (j := kx_forest) d_K_group_55 v_478 rfl (by decide) (by decide) rfl r_kx_6 ?_
        refine ab_getI (ci := 2) (k := 1) d_K_group_58 v_333 rfl (by decide) (by decide) rfl ?_
        refine ab_icmp_ne (tgt := 68) d_K_group_61 (by decide) (fun c9 => ?_) (fun c9 => ?_)
        · have h := h.1 c9
          refine ab_aload_n (i := 3) d_K_group_68 rfl rfl ?_
          refine ab_getR (ci := 1) (k := 5) (j := kx_now_cables_price) d_K_group_69 v_224 rfl (by decide) (by decide) rfl r_kx_now_cables_5 ?_
          refine ab_aload_n (i := 0) d_K_group_72 rfl rfl ?_
          refine ab_getR (ci := 10) (k := 6) (j := kx_forest) d_K_group_73 v_478 rfl (by decide) (by decide) rfl r_kx_6 ?_
          refine ab_getR (ci := 2) (k := 0) (j := kx_forest_order) d_K_group_76 v_330 rfl (by decide) (by decide) rfl r_kx_forest_0 ?_
          refine ab_iload (i := 4) d_K_group_79 rfl ?_
          have g10 := h.1; have h := h.2
          refine ab_iald d_K_group_81 rfl rfl g10 ?_
          have g11 := h.1; have h := h.2
          refine ab_iald d_K_group_82 rfl rfl g11 ?_
          exact ab_iret (ty := .int) d_K_group_83 rfl rfl h
        · have h := h.2 c9
          refine ab_iconst (v := 0) d_K_group_64 rfl ?_
          refine ab_goto (tgt := 83) d_K_group_65 (by decide) ?_
          exact ab_iret (ty := .int) d_K_group_83 rfl rfl h
    · have h := h.2 c2
      exact ab_throw (E := "java/lang/IllegalArgumentException") d_K_group_21 d_K_group_24 d_K_group_25 d_K_group_28 (by decide +kernel) rfl v_698 v_155 x3_K_92 x4_K_92 h8 (Nat.le_of_ble_eq_true rfl) h
theorem r_K_without_0 {w : ab_Wd} {d n nc ns : Nat} {I : Nat → Nat → Int32} {L : Nat → Nat → Int64} {res : ab_Re} (hT : w.1.stackTraces = false) (v1 : Int32) (v2 : Int32) (h8 : 8 ≤ (d + 1)) (hc : nc ≤ res.2.2.2.2.2.1) (hs : ns ≤ res.2.2.2.2.2.2)
    (h : ((ab_C w d mt_K_needSite [.ref kx, .int v1] (I, L, ab_RR, n, nc, ns) (.inl none, (I, L, ab_RR, n, nc, ns)) ∧ (∃ (r2 : Int32), ab_C w d mt_Cables_endingAt [.ref kx_now_cables, .int v1] (I, L, ab_RR, n, nc, ns) (.inl (some (.int r2)), (I, L, ab_RR, n, nc, ns)) ∧ ∃ (I4 : Nat → Nat → Int32), ab_C w d mt_Forest_grow [.ref kx_trialNet, .ref kx_now_cables, .int ((I kx_now_cables 2) &&& (r2 ^^^ (-1)))] (I, L, ab_RR, n, nc, ns) (.inl none, (I4, L, ab_RR, n, nc, ns)) ∧ ((v2 = 0 → (res = (.inl (some (.int (I4 kx_trialNet 3))), (I4, L, ab_RR, n, nc, ns)))) ∧ (v2 = 1 → (res = (.inl (some (.int ((I4 kx_trialNet 4) - 1))), (I4, L, ab_RR, n, nc, ns)))) ∧ (¬ v2 = 0 ∧ ¬ v2 = 1 → (res = (.inr "java/util/NoSuchElementException", (I4, L, ab_RR, n, nc + 1, ns + 6))))))) ∨ (∃ E : String, ab_C w d mt_K_needSite [.ref kx, .int v1] (I, L, ab_RR, n, nc, ns) (.inr E, (I, L, ab_RR, n, nc + 1, ns + 6)) ∧ res = (.inr E, (I, L, ab_RR, n, nc + 1, ns + 6))))) : ab_E w (d + 1) mt_K_without 0 [.ref kx, .int v1, .int v2] [] (I, L, ab_RR, n, nc, ns) res := by
  refine ab_aload_n (i := 0) d_K_without_0 rfl rfl ?_
  refine ab_iload_n (i := 1) d_K_without_1 rfl rfl ?_
  rcases h with ⟨hC, h⟩ | ⟨E9, hC, h⟩
  · refine ab_callV (me2 := mt_K_needSite) (b := kx) (as := [.int v1]) (st := []) (rv := none) (M2 := (I, L, ab_RR, n, nc, ns)) d_K_without_2 ce_K_needSite v_1124 v_1126 v_49 (by decide) rfl (Nat.le_of_ble_eq_true rfl) hC (Nat.le_refl _) (Nat.le_refl _) hc hs (fun j h9 => by cases h9) (fun _ _ => rfl) ?_
    show ab_E w (d + 1) mt_K_without 5 [.ref kx, .int v1, .int v2] [] (I, L, ab_RR, n, nc, ns) res
    refine ab_aload_n (i := 0) d_K_without_5 rfl rfl ?_
    refine ab_getR (ci := 10) (k := 9) (j := kx_trialNet) d_K_without_6 v_481 rfl (by decide) (by decide) rfl r_kx_9 ?_
    refine ab_aload_n (i := 0) d_K_without_9 rfl rfl ?_
    refine ab_getR (ci := 10) (k := 3) (j := kx_now) d_K_without_10 v_475 rfl (by decide) (by decide) rfl r_kx_3 ?_
    refine ab_getR (ci := 6) (k := 0) (j := kx_now_cables) d_K_without_13 v_294 rfl (by decide) (by decide) rfl r_kx_now_0 ?_
    refine ab_aload_n (i := 0) d_K_without_16 rfl rfl ?_
    refine ab_getR (ci := 10) (k := 3) (j := kx_now) d_K_without_17 v_475 rfl (by decide) (by decide) rfl r_kx_3 ?_
    refine ab_getR (ci := 6) (k := 0) (j := kx_now_cables) d_K_without_20 v_294 rfl (by decide) (by decide) rfl r_kx_now_0 ?_
    refine ab_getI (ci := 1) (k := 2) d_K_without_23 v_202 rfl (by decide) (by decide) rfl ?_
    refine ab_aload_n (i := 0) d_K_without_26 rfl rfl ?_
    refine ab_getR (ci := 10) (k := 3) (j := kx_now) d_K_without_27 v_475 rfl (by decide) (by decide) rfl r_kx_3 ?_
    refine ab_getR (ci := 6) (k := 0) (j := kx_now_cables) d_K_without_30 v_294 rfl (by decide) (by decide) rfl r_kx_now_0 ?_
    refine ab_iload_n (i := 1) d_K_without_33 rfl rfl ?_
    obtain ⟨r2, hC, h⟩ := h
    refine ab_callV (me2 := mt_Cables_endingAt) (b := kx_now_cables) (as := [.int v1]) (st := [.int (I kx_now_cables 2), .ref kx_now_cables, .ref kx_trialNet]) (rv := (some (.int r2))) (M2 := (I, L, ab_RR, n, nc, ns)) d_K_without_34 ce_Cables_endingAt v_960 v_961 v_962 (by decide) rfl (Nat.le_of_ble_eq_true rfl) hC (Nat.le_refl _) (Nat.le_refl _) hc hs (fun j h9 => by cases h9) (fun _ _ => rfl) ?_
    show ab_E w (d + 1) mt_K_without 37 [.ref kx, .int v1, .int v2] [.int r2, .int (I kx_now_cables 2), .ref kx_now_cables, .ref kx_trialNet] (I, L, ab_RR, n, nc, ns) res
    refine ab_iconst (v := (-1)) d_K_without_37 rfl ?_
    refine ab_ixor d_K_without_38 ?_
    refine ab_iand d_K_without_39 ?_
    obtain ⟨I4, hC, h⟩ := h
    refine ab_callV (me2 := mt_Forest_grow) (b := kx_trialNet) (as := [.ref kx_now_cables, .int ((I kx_now_cables 2) &&& (r2 ^^^ (-1)))]) (st := []) (rv := none) (M2 := (I4, L, ab_RR, n, nc, ns)) d_K_without_40 ce_Forest_grow v_440 v_441 v_442 (by decide) rfl (Nat.le_of_ble_eq_true rfl) hC (Nat.le_refl _) (Nat.le_refl _) hc hs (fun j h9 => by cases h9) (fun _ _ => rfl) ?_
    show ab_E w (d + 1) mt_K_without 43 [.ref kx, .int v1, .int v2] [] (I4, L, ab_RR, n, nc, ns) res
    refine ab_iload_n (i := 2) d_K_without_43 rfl rfl ?_
    by_cases c5 : v2 = 0
    · have h := h.1 c5
      refine ab_look (off := 28) (tgt := 72) d_K_without_44 (by decide) (by rw [c5]; rfl) (by decide) ?_
      refine ab_aload_n (i := 0) d_K_without_72 rfl rfl ?_
      refine ab_getR (ci := 10) (k := 9) (j := kx_trialNet) d_K_without_73 v_481 rfl (by decide) (by decide) rfl r_kx_9 ?_
      refine ab_getI (ci := 2) (k := 3) d_K_without_76 v_337 rfl (by decide) (by decide) rfl ?_
      exact ab_iret (ty := .int) d_K_without_79 rfl rfl h
    by_cases c6 : v2 = 1
    · have h := h.2.1 c6
      refine ab_look (off := 36) (tgt := 80) d_K_without_44 (by decide) (by rw [c6]; rfl) (by decide) ?_
      refine ab_aload_n (i := 0) d_K_without_80 rfl rfl ?_
      refine ab_getR (ci := 10) (k := 9) (j := kx_trialNet) d_K_without_81 v_481 rfl (by decide) (by decide) rfl r_kx_9 ?_
      refine ab_getI (ci := 2) (k := 4) d_K_without_84 v_339 rfl (by decide) (by decide) rfl ?_
      refine ab_iconst (v := 1) d_K_without_87 rfl ?_
      refine ab_isub d_K_without_88 ?_
      exact ab_iret (ty := .int) d_K_without_89 rfl rfl h
    have h := h.2.2 ⟨c5, c6⟩
    refine ab_look (off := 46) (tgt := 90) d_K_without_44 (by decide) (by show Op.lookupswitch.offset [(0, 28), (1, 36)] 46 v2.toInt = 46; rw [lv_osw c5 (by decide), lv_osw c6 (by decide)]; rfl) (by decide) ?_
    exact ab_throw (E := "java/util/NoSuchElementException") d_K_without_90 d_K_without_93 d_K_without_94 d_K_without_97 (by decide +kernel) rfl v_1049 v_163 x3_K_185 x4_K_185 h8 (Nat.le_of_ble_eq_true rfl) h
  · exact ab_callVX (me2 := mt_K_needSite) (b := kx) (as := [.int v1]) (st := []) (M2 := (I, L, ab_RR, n, nc + 1, ns + 6)) rfl d_K_without_2 ce_K_needSite v_1124 v_1126 v_49 (by decide) rfl (Nat.le_of_ble_eq_true rfl) hC (Nat.le_succ _) (Nat.le_add_right _ _) (fun _ _ => rfl) h
theorem r_K_alike_0 {w : ab_Wd} {d n nc ns : Nat} {I : Nat → Nat → Int32} {L : Nat → Nat → Int64} {res : ab_Re} (hT : w.1.stackTraces = false)  (hc : nc ≤ res.2.2.2.2.2.1) (hs : ns ≤ res.2.2.2.2.2.2)
    (h : ∃ (r1 : Int64) (I2 : Nat → Nat → Int32) (L3 : Nat → Nat → Int64), ab_C w d mt_Likes_countNets [.ref kx_likes, .ref kx_now_cables] (I, L, ab_RR, n, nc, ns) (.inl (some (.long r1)), (I2, L3, ab_RR, n, nc, ns)) ∧ res = (.inl (some (.long r1)), (I2, L3, ab_RR, n, nc, ns))) : ab_E w (d + 1) mt_K_alike 0 [.ref kx] [] (I, L, ab_RR, n, nc, ns) res := by
  refine ab_aload_n (i := 0) d_K_alike_0 rfl rfl ?_
  refine ab_getR (ci := 10) (k := 12) (j := kx_likes) d_K_alike_1 v_484 rfl (by decide) (by decide) rfl r_kx_12 ?_
  refine ab_aload_n (i := 0) d_K_alike_4 rfl rfl ?_
  refine ab_getR (ci := 10) (k := 3) (j := kx_now) d_K_alike_5 v_475 rfl (by decide) (by decide) rfl r_kx_3 ?_
  refine ab_getR (ci := 6) (k := 0) (j := kx_now_cables) d_K_alike_8 v_294 rfl (by decide) (by decide) rfl r_kx_now_0 ?_
  obtain ⟨r1, I2, L3, hC, h⟩ := h
  refine ab_callV (me2 := mt_Likes_countNets) (b := kx_likes) (as := [.ref kx_now_cables]) (st := []) (rv := (some (.long r1))) (M2 := (I2, L3, ab_RR, n, nc, ns)) d_K_alike_11 ce_Likes_countNets v_531 v_532 v_533 (by decide) rfl (Nat.le_of_ble_eq_true rfl) hC (Nat.le_refl _) (Nat.le_refl _) hc hs (fun j h9 => by cases h9) (fun _ _ => rfl) ?_
  show ab_E w (d + 1) mt_K_alike 14 [.ref kx] [.long r1] (I2, L3, ab_RR, n, nc, ns) res
  exact ab_lret d_K_alike_14 rfl h
theorem r_K_told_0 {w : ab_Wd} {d n nc ns : Nat} {I : Nat → Nat → Int32} {L : Nat → Nat → Int64} {res : ab_Re} (hT : w.1.stackTraces = false) (v1 : Int32) (h8 : 8 ≤ (d + 1)) (hc : nc ≤ res.2.2.2.2.2.1) (hs : ns ≤ res.2.2.2.2.2.2)
    (h : ∃ (I2 : Nat → Nat → Int32), ab_C w d mt_Teller_tell [.ref kx_teller, .ref kx_now_cables] (I, L, ab_RR, n, nc, ns) (.inl none, (I2, L, ab_RR, n, nc, ns)) ∧ ((¬ v1 = (-1) → ((v1 < 0 → (res = (.inr "java/util/NoSuchElementException", (I2, L, ab_RR, n, nc + 1, ns + 6)))) ∧ (¬ v1 < 0 → ((v1 < (I2 kx_teller 1) → ((vp_in v1 700) ∧ res = (.inl (some (.int (I2 kx_teller_text v1.toNatClampNeg))), (I2, L, ab_RR, n, nc, ns)))) ∧ (¬ v1 < (I2 kx_teller 1) → (res = (.inr "java/util/NoSuchElementException", (I2, L, ab_RR, n, nc + 1, ns + 6)))))))) ∧ (v1 = (-1) → (res = (.inl (some (.int (I2 kx_teller 1))), (I2, L, ab_RR, n, nc, ns)))))) : ab_E w (d + 1) mt_K_told 0 [.ref kx, .int v1] [] (I, L, ab_RR, n, nc, ns) res := by
  refine ab_aload_n (i := 0) d_K_told_0 rfl rfl ?_
  refine ab_getR (ci := 10) (k := 13) (j := kx_teller) d_K_told_1 v_485 rfl (by decide) (by decide) rfl r_kx_13 ?_
  refine ab_aload_n (i := 0) d_K_told_4 rfl rfl ?_
  refine ab_getR (ci := 10) (k := 3) (j := kx_now) d_K_told_5 v_475 rfl (by decide) (by decide) rfl r_kx_3 ?_
  refine ab_getR (ci := 6) (k := 0) (j := kx_now_cables) d_K_told_8 v_294 rfl (by decide) (by decide) rfl r_kx_now_0 ?_
  obtain ⟨I2, hC, h⟩ := h
  refine ab_callV (me2 := mt_Teller_tell) (b := kx_teller) (as := [.ref kx_now_cables]) (st := []) (rv := none) (M2 := (I2, L, ab_RR, n, nc, ns)) d_K_told_11 ce_Teller_tell v_1219 v_1220 v_1221 (by decide) rfl (Nat.le_of_ble_eq_true rfl) hC (Nat.le_refl _) (Nat.le_refl _) hc hs (fun j h9 => by cases h9) (fun _ _ => rfl) ?_
  show ab_E w (d + 1) mt_K_told 14 [.ref kx, .int v1] [] (I2, L, ab_RR, n, nc, ns) res
  refine ab_iload_n (i := 1) d_K_told_14 rfl rfl ?_
  refine ab_iconst (v := (-1)) d_K_told_15 rfl ?_
  refine ab_icmp_ne (tgt := 27) d_K_told_16 (by decide) (fun c3 => ?_) (fun c3 => ?_)
  · have h := h.1 c3
    refine ab_iload_n (i := 1) d_K_told_27 rfl rfl ?_
    refine ab_if_lt (tgt := 42) d_K_told_28 (by decide) (fun c4 => ?_) (fun c4 => ?_)
    · have h := h.1 c4
      exact ab_throw (E := "java/util/NoSuchElementException") d_K_told_42 d_K_told_45 d_K_told_46 d_K_told_49 (by decide +kernel) rfl v_1049 v_163 x3_K_185 x4_K_185 h8 (Nat.le_of_ble_eq_true rfl) h
    · have h := h.2 c4
      refine ab_iload_n (i := 1) d_K_told_31 rfl rfl ?_
      refine ab_aload_n (i := 0) d_K_told_32 rfl rfl ?_
      refine ab_getR (ci := 10) (k := 13) (j := kx_teller) d_K_told_33 v_485 rfl (by decide) (by decide) rfl r_kx_13 ?_
      refine ab_getI (ci := 8) (k := 1) d_K_told_36 v_430 rfl (by decide) (by decide) rfl ?_
      refine ab_icmp_lt (tgt := 50) d_K_told_39 (by decide) (fun c5 => ?_) (fun c5 => ?_)
      · have h := h.1 c5
        refine ab_aload_n (i := 0) d_K_told_50 rfl rfl ?_
        refine ab_getR (ci := 10) (k := 13) (j := kx_teller) d_K_told_51 v_485 rfl (by decide) (by decide) rfl r_kx_13 ?_
        refine ab_getR (ci := 8) (k := 0) (j := kx_teller_text) d_K_told_54 v_428 rfl (by decide) (by decide) rfl r_kx_teller_0 ?_
        refine ab_iload_n (i := 1) d_K_told_57 rfl rfl ?_
        have g6 := h.1; have h := h.2
        refine ab_bald d_K_told_58 rfl rfl g6 ?_
        exact ab_iret (ty := .int) d_K_told_59 rfl rfl h
      · have h := h.2 c5
        exact ab_throw (E := "java/util/NoSuchElementException") d_K_told_42 d_K_told_45 d_K_told_46 d_K_told_49 (by decide +kernel) rfl v_1049 v_163 x3_K_185 x4_K_185 h8 (Nat.le_of_ble_eq_true rfl) h
  · have h := h.2 c3
    refine ab_aload_n (i := 0) d_K_told_19 rfl rfl ?_
    refine ab_getR (ci := 10) (k := 13) (j := kx_teller) d_K_told_20 v_485 rfl (by decide) (by decide) rfl r_kx_13 ?_
    refine ab_getI (ci := 8) (k := 1) d_K_told_23 v_430 rfl (by decide) (by decide) rfl ?_
    exact ab_iret (ty := .int) d_K_told_26 rfl rfl h
theorem r_K_joined_0 {w : ab_Wd} {d n nc ns : Nat} {I : Nat → Nat → Int32} {L : Nat → Nat → Int64} {res : ab_Re} (hT : w.1.stackTraces = false) (v1 : Int32) (h8 : 8 ≤ (d + 1)) (hc : nc ≤ res.2.2.2.2.2.1) (hs : ns ≤ res.2.2.2.2.2.2)
    (h : ((v1 < 0 → (res = (.inr "java/lang/IllegalArgumentException", (I, L, ab_RR, n, nc + 1, ns + 6)))) ∧ (¬ v1 < 0 → (((v1 >>> ((I kx_now_cables 0) &&& 31)) = 0 → (∃ (r3 : Int32) (I4 : Nat → Nat → Int32), ab_C w d mt_Roads_joining [.ref kx_roads, .ref kx_now_cables, .int v1] (I, L, ab_RR, n, nc, ns) (.inl (some (.int r3)), (I4, L, ab_RR, n, nc, ns)) ∧ res = (.inl (some (.int r3)), (I4, L, ab_RR, n, nc, ns)))) ∧ (¬ (v1 >>> ((I kx_now_cables 0) &&& 31)) = 0 → (res = (.inr "java/lang/IllegalArgumentException", (I, L, ab_RR, n, nc + 1, ns + 6)))))))) : ab_E w (d + 1) mt_K_joined 0 [.ref kx, .int v1] [] (I, L, ab_RR, n, nc, ns) res := by
  refine ab_iload_n (i := 1) d_K_joined_0 rfl rfl ?_
  refine ab_if_lt (tgt := 19) d_K_joined_1 (by decide) (fun c1 => ?_) (fun c1 => ?_)
  · have h := h.1 c1
    exact ab_throw (E := "java/lang/IllegalArgumentException") d_K_joined_19 d_K_joined_22 d_K_joined_23 d_K_joined_26 (by decide +kernel) rfl v_698 v_155 x3_K_92 x4_K_92 h8 (Nat.le_of_ble_eq_true rfl) h
  · have h := h.2 c1
    refine ab_iload_n (i := 1) d_K_joined_4 rfl rfl ?_
    refine ab_aload_n (i := 0) d_K_joined_5 rfl rfl ?_
    refine ab_getR (ci := 10) (k := 3) (j := kx_now) d_K_joined_6 v_475 rfl (by decide) (by decide) rfl r_kx_3 ?_
    refine ab_getR (ci := 6) (k := 0) (j := kx_now_cables) d_K_joined_9 v_294 rfl (by decide) (by decide) rfl r_kx_now_0 ?_
    refine ab_getI (ci := 1) (k := 0) d_K_joined_12 v_190 rfl (by decide) (by decide) rfl ?_
    refine ab_ishr d_K_joined_15 ?_
    refine ab_if_eq (tgt := 27) d_K_joined_16 (by decide) (fun c2 => ?_) (fun c2 => ?_)
    · have h := h.1 c2
      refine ab_aload_n (i := 0) d_K_joined_27 rfl rfl ?_
      refine ab_getR (ci := 10) (k := 11) (j := kx_roads) d_K_joined_28 v_483 rfl (by decide) (by decide) rfl r_kx_11 ?_
      refine ab_aload_n (i := 0) d_K_joined_31 rfl rfl ?_
      refine ab_getR (ci := 10) (k := 3) (j := kx_now) d_K_joined_32 v_475 rfl (by decide) (by decide) rfl r_kx_3 ?_
      refine ab_getR (ci := 6) (k := 0) (j := kx_now_cables) d_K_joined_35 v_294 rfl (by decide) (by decide) rfl r_kx_now_0 ?_
      refine ab_iload_n (i := 1) d_K_joined_38 rfl rfl ?_
      obtain ⟨r3, I4, hC, h⟩ := h
      refine ab_callV (me2 := mt_Roads_joining) (b := kx_roads) (as := [.ref kx_now_cables, .int v1]) (st := []) (rv := (some (.int r3))) (M2 := (I4, L, ab_RR, n, nc, ns)) d_K_joined_39 ce_Roads_joining v_1250 v_1251 v_1252 (by decide) rfl (Nat.le_of_ble_eq_true rfl) hC (Nat.le_refl _) (Nat.le_refl _) hc hs (fun j h9 => by cases h9) (fun _ _ => rfl) ?_
      show ab_E w (d + 1) mt_K_joined 42 [.ref kx, .int v1] [.int r3] (I4, L, ab_RR, n, nc, ns) res
      exact ab_iret (ty := .int) d_K_joined_42 rfl rfl h
    · have h := h.2 c2
      exact ab_throw (E := "java/lang/IllegalArgumentException") d_K_joined_19 d_K_joined_22 d_K_joined_23 d_K_joined_26 (by decide +kernel) rfl v_698 v_155 x3_K_92 x4_K_92 h8 (Nat.le_of_ble_eq_true rfl) h
theorem cx_Swaps_rowOf_0 {w : ab_Wd} {d n nc ns : Nat} {I : Nat → Nat → Int32} {L : Nat → Nat → Int64} (v1 : Int32) (hT : w.1.stackTraces = false) (e1 : (vp_in ((((I kx_now_swaps 1) - 1) - v1) &&& 1023) 1024)) : ab_C w d mt_Swaps_rowOf [.ref kx_now_swaps, .int v1] (I, L, ab_RR, n, nc, ns) (.inl (some (.int (I kx_now_swaps_rows ((((I kx_now_swaps 1) - 1) - v1) &&& 1023).toNatClampNeg))), (I, L, ab_RR, n, nc, ns)) := by
  refine ab_C_of (by decide) rfl (Nat.le_of_ble_eq_true rfl) hT ?_
  have hc := Nat.le_refl nc
  have hs := Nat.le_refl ns
  refine ab_aload_n (i := 0) d_Swaps_rowOf_0 rfl rfl ?_
  refine ab_getR (ci := 7) (k := 0) (j := kx_now_swaps_rows) d_Swaps_rowOf_1 v_258 rfl (by decide) (by decide) rfl r_kx_now_swaps_0 ?_
  refine ab_aload_n (i := 0) d_Swaps_rowOf_4 rfl rfl ?_
  refine ab_getI (ci := 7) (k := 1) d_Swaps_rowOf_5 v_259 rfl (by decide) (by decide) rfl ?_
  refine ab_iconst (v := 1) d_Swaps_rowOf_8 rfl ?_
  refine ab_isub d_Swaps_rowOf_9 ?_
  refine ab_iload_n (i := 1) d_Swaps_rowOf_10 rfl rfl ?_
  refine ab_isub d_Swaps_rowOf_11 ?_
  refine ab_sipush (v := 1023) d_Swaps_rowOf_12 rfl ?_
  refine ab_iand d_Swaps_rowOf_15 ?_
  refine ab_iald d_Swaps_rowOf_16 rfl rfl e1 ?_
  exact ab_iret (ty := .int) d_Swaps_rowOf_17 rfl rfl rfl
theorem cx_Swaps_whyIn_0 {w : ab_Wd} {d n nc ns : Nat} {I : Nat → Nat → Int32} {L : Nat → Nat → Int64} (v0 : Int32) (hT : w.1.stackTraces = false)  : ab_C w d mt_Swaps_whyIn [.int v0] (I, L, ab_RR, n, nc, ns) (.inl (some (.int ((ab_ushr v0 15) &&& 7))), (I, L, ab_RR, n, nc, ns)) := by
  refine ab_C_of (by decide) rfl (Nat.le_of_ble_eq_true rfl) hT ?_
  have hc := Nat.le_refl nc
  have hs := Nat.le_refl ns
  refine ab_iload_n (i := 0) d_Swaps_whyIn_0 rfl rfl ?_
  refine ab_bipush (v := 15) d_Swaps_whyIn_1 rfl ?_
  refine ab_iushr (v := (ab_ushr v0 15)) d_Swaps_whyIn_3 rfl ?_
  refine ab_bipush (v := 7) d_Swaps_whyIn_4 rfl ?_
  refine ab_iand d_Swaps_whyIn_6 ?_
  exact ab_iret (ty := .int) d_Swaps_whyIn_7 rfl rfl rfl
theorem cx_Swaps_cableIn_0 {w : ab_Wd} {d n nc ns : Nat} {I : Nat → Nat → Int32} {L : Nat → Nat → Int64} (v0 : Int32) (hT : w.1.stackTraces = false)  : ab_C w d mt_Swaps_cableIn [.int v0] (I, L, ab_RR, n, nc, ns) (.inl (some (.int ((ab_ushr v0 10) &&& 31))), (I, L, ab_RR, n, nc, ns)) := by
  refine ab_C_of (by decide) rfl (Nat.le_of_ble_eq_true rfl) hT ?_
  have hc := Nat.le_refl nc
  have hs := Nat.le_refl ns
  refine ab_iload_n (i := 0) d_Swaps_cableIn_0 rfl rfl ?_
  refine ab_bipush (v := 10) d_Swaps_cableIn_1 rfl ?_
  refine ab_iushr (v := (ab_ushr v0 10)) d_Swaps_cableIn_3 rfl ?_
  refine ab_bipush (v := 31) d_Swaps_cableIn_4 rfl ?_
  refine ab_iand d_Swaps_cableIn_6 ?_
  exact ab_iret (ty := .int) d_Swaps_cableIn_7 rfl rfl rfl
theorem cx_Swaps_outIn_0 {w : ab_Wd} {d n nc ns : Nat} {I : Nat → Nat → Int32} {L : Nat → Nat → Int64} (v0 : Int32) (hT : w.1.stackTraces = false)  : ab_C w d mt_Swaps_outIn [.int v0] (I, L, ab_RR, n, nc, ns) (.inl (some (.int (((ab_ushr v0 5) &&& 31) - 1))), (I, L, ab_RR, n, nc, ns)) := by
  refine ab_C_of (by decide) rfl (Nat.le_of_ble_eq_true rfl) hT ?_
  have hc := Nat.le_refl nc
  have hs := Nat.le_refl ns
  refine ab_iload_n (i := 0) d_Swaps_outIn_0 rfl rfl ?_
  refine ab_iconst (v := 5) d_Swaps_outIn_1 rfl ?_
  refine ab_iushr (v := (ab_ushr v0 5)) d_Swaps_outIn_2 rfl ?_
  refine ab_bipush (v := 31) d_Swaps_outIn_3 rfl ?_
  refine ab_iand d_Swaps_outIn_5 ?_
  refine ab_iconst (v := 1) d_Swaps_outIn_6 rfl ?_
  refine ab_isub d_Swaps_outIn_7 ?_
  exact ab_iret (ty := .int) d_Swaps_outIn_8 rfl rfl rfl
theorem cx_Swaps_inIn_0 {w : ab_Wd} {d n nc ns : Nat} {I : Nat → Nat → Int32} {L : Nat → Nat → Int64} (v0 : Int32) (hT : w.1.stackTraces = false)  : ab_C w d mt_Swaps_inIn [.int v0] (I, L, ab_RR, n, nc, ns) (.inl (some (.int ((v0 &&& 31) - 1))), (I, L, ab_RR, n, nc, ns)) := by
  refine ab_C_of (by decide) rfl (Nat.le_of_ble_eq_true rfl) hT ?_
  have hc := Nat.le_refl nc
  have hs := Nat.le_refl ns
  refine ab_iload_n (i := 0) d_Swaps_inIn_0 rfl rfl ?_
  refine ab_bipush (v := 31) d_Swaps_inIn_1 rfl ?_
  refine ab_iand d_Swaps_inIn_3 ?_
  refine ab_iconst (v := 1) d_Swaps_inIn_4 rfl ?_
  refine ab_isub d_Swaps_inIn_5 ?_
  exact ab_iret (ty := .int) d_Swaps_inIn_6 rfl rfl rfl
theorem cx_Swaps_totalIn_0 {w : ab_Wd} {d n nc ns : Nat} {I : Nat → Nat → Int32} {L : Nat → Nat → Int64} (v0 : Int32) (hT : w.1.stackTraces = false)  : ab_C w d mt_Swaps_totalIn [.int v0] (I, L, ab_RR, n, nc, ns) (.inl (some (.int (ab_ushr v0 18))), (I, L, ab_RR, n, nc, ns)) := by
  refine ab_C_of (by decide) rfl (Nat.le_of_ble_eq_true rfl) hT ?_
  have hc := Nat.le_refl nc
  have hs := Nat.le_refl ns
  refine ab_iload_n (i := 0) d_Swaps_totalIn_0 rfl rfl ?_
  refine ab_bipush (v := 18) d_Swaps_totalIn_1 rfl ?_
  refine ab_iushr (v := (ab_ushr v0 18)) d_Swaps_totalIn_3 rfl ?_
  exact ab_iret (ty := .int) d_Swaps_totalIn_4 rfl rfl rfl
theorem r_K_swap_0 {w : ab_Wd} {d n nc ns : Nat} {I : Nat → Nat → Int32} {L : Nat → Nat → Int64} {res : ab_Re} (hT : w.1.stackTraces = false) (v1 : Int32) (v2 : Int32) (h8 : 8 ≤ (d + 2)) (hc : nc ≤ res.2.2.2.2.2.1) (hs : ns ≤ res.2.2.2.2.2.2)
    (h : ((v1 < 0 → (res = (.inr "java/util/NoSuchElementException", (I, L, ab_RR, n, nc + 1, ns + 6)))) ∧ (¬ v1 < 0 → ((v1 < (ab_min32 (I kx_now_swaps 1) 60) → ((vp_in ((((I kx_now_swaps 1) - 1) - v1) &&& 1023) 1024) ∧ ((v2 = 0 → (res = (.inl (some (.int ((ab_ushr (I kx_now_swaps_rows ((((I kx_now_swaps 1) - 1) - v1) &&& 1023).toNatClampNeg) 15) &&& 7))), (I, L, ab_RR, n, nc, ns)))) ∧ (v2 = 1 → (res = (.inl (some (.int ((ab_ushr (I kx_now_swaps_rows ((((I kx_now_swaps 1) - 1) - v1) &&& 1023).toNatClampNeg) 10) &&& 31))), (I, L, ab_RR, n, nc, ns)))) ∧ (v2 = 2 → (res = (.inl (some (.int (((ab_ushr (I kx_now_swaps_rows ((((I kx_now_swaps 1) - 1) - v1) &&& 1023).toNatClampNeg) 5) &&& 31) - 1))), (I, L, ab_RR, n, nc, ns)))) ∧ (v2 = 3 → (res = (.inl (some (.int (((I kx_now_swaps_rows ((((I kx_now_swaps 1) - 1) - v1) &&& 1023).toNatClampNeg) &&& 31) - 1))), (I, L, ab_RR, n, nc, ns)))) ∧ (v2 = 4 → (res = (.inl (some (.int (ab_ushr (I kx_now_swaps_rows ((((I kx_now_swaps 1) - 1) - v1) &&& 1023).toNatClampNeg) 18))), (I, L, ab_RR, n, nc, ns)))) ∧ ((v2.toInt < 0 ∨ 4 < v2.toInt) → (res = (.inr "java/util/NoSuchElementException", (I, L, ab_RR, n, nc + 1, ns + 6))))))) ∧ (¬ v1 < (ab_min32 (I kx_now_swaps 1) 60) → (res = (.inr "java/util/NoSuchElementException", (I, L, ab_RR, n, nc + 1, ns + 6)))))))) : ab_E w (d + 2) mt_K_swap 0 [.ref kx, .int v1, .int v2, .null] [] (I, L, ab_RR, n, nc, ns) res := by
  refine ab_iload_n (i := 1) d_K_swap_0 rfl rfl ?_
  refine ab_if_lt (tgt := 18) d_K_swap_1 (by decide) (fun c1 => ?_) (fun c1 => ?_)
  · have h := h.1 c1
    exact ab_throw (E := "java/util/NoSuchElementException") d_K_swap_18 d_K_swap_21 d_K_swap_22 d_K_swap_25 (by decide +kernel) rfl v_1049 v_163 x3_K_185 x4_K_185 h8 (Nat.le_of_ble_eq_true rfl) h
  · have h := h.2 c1
    refine ab_iload_n (i := 1) d_K_swap_4 rfl rfl ?_
    refine ab_aload_n (i := 0) d_K_swap_5 rfl rfl ?_
    refine ab_getR (ci := 10) (k := 3) (j := kx_now) d_K_swap_6 v_475 rfl (by decide) (by decide) rfl r_kx_3 ?_
    refine ab_getR (ci := 6) (k := 1) (j := kx_now_swaps) d_K_swap_9 v_296 rfl (by decide) (by decide) rfl r_kx_now_1 ?_
    refine ab_callV (me2 := mt_Swaps_shown) (b := kx_now_swaps) (as := []) (st := [.int v1]) (rv := (some (.int (ab_min32 (I kx_now_swaps 1) 60)))) (M2 := (I, L, ab_RR, n, nc, ns)) d_K_swap_12 ce_Swaps_shown v_927 v_928 v_929 (by decide) rfl (Nat.le_of_ble_eq_true rfl) (cx_Swaps_shown_0  hT) (Nat.le_refl _) (Nat.le_refl _) hc hs (fun j h9 => by cases h9) (fun _ _ => rfl) ?_
    show ab_E w (d + 2) mt_K_swap 15 [.ref kx, .int v1, .int v2, .null] [.int (ab_min32 (I kx_now_swaps 1) 60), .int v1] (I, L, ab_RR, n, nc, ns) res
    refine ab_icmp_lt (tgt := 26) d_K_swap_15 (by decide) (fun c3 => ?_) (fun c3 => ?_)
    · have h := h.1 c3
      refine ab_aload_n (i := 0) d_K_swap_26 rfl rfl ?_
      refine ab_getR (ci := 10) (k := 3) (j := kx_now) d_K_swap_27 v_475 rfl (by decide) (by decide) rfl r_kx_3 ?_
      refine ab_getR (ci := 6) (k := 1) (j := kx_now_swaps) d_K_swap_30 v_296 rfl (by decide) (by decide) rfl r_kx_now_1 ?_
      refine ab_iload_n (i := 1) d_K_swap_33 rfl rfl ?_
      have g5 := h.1; have h := h.2
      refine ab_callV (me2 := mt_Swaps_rowOf) (b := kx_now_swaps) (as := [.int v1]) (st := []) (rv := (some (.int (I kx_now_swaps_rows ((((I kx_now_swaps 1) - 1) - v1) &&& 1023).toNatClampNeg)))) (M2 := (I, L, ab_RR, n, nc, ns)) d_K_swap_34 ce_Swaps_rowOf v_1270 v_1271 v_1272 (by decide) rfl (Nat.le_of_ble_eq_true rfl) (cx_Swaps_rowOf_0 v1 hT g5) (Nat.le_refl _) (Nat.le_refl _) hc hs (fun j h9 => by cases h9) (fun _ _ => rfl) ?_
      show ab_E w (d + 2) mt_K_swap 37 [.ref kx, .int v1, .int v2, .null] [.int (I kx_now_swaps_rows ((((I kx_now_swaps 1) - 1) - v1) &&& 1023).toNatClampNeg)] (I, L, ab_RR, n, nc, ns) res
      refine ab_istore_n (i := 3) d_K_swap_37 rfl (by decide) (Or.inr rfl) ?_
      refine ab_iload_n (i := 2) d_K_swap_38 rfl rfl ?_
      by_cases c11 : v2 = 0
      · have h := h.1 c11
        refine ab_tabIn (tgt := 72) d_K_swap_39 (by rw [c11]; decide) (by rw [c11]; decide) (by rw [ab_tab_in (j := 0) c11 (by decide)]; rfl) (by decide) ?_
        refine ab_iload_n (i := 3) d_K_swap_72 rfl rfl ?_
        refine ab_callS (me2 := mt_Swaps_whyIn) (as := [.int (I kx_now_swaps_rows ((((I kx_now_swaps 1) - 1) - v1) &&& 1023).toNatClampNeg)]) (st := []) (rv := (some (.int ((ab_ushr (I kx_now_swaps_rows ((((I kx_now_swaps 1) - 1) - v1) &&& 1023).toNatClampNeg) 15) &&& 7)))) (M2 := (I, L, ab_RR, n, nc, ns)) d_K_swap_73 ce_Swaps_whyIn ⟨v_1275, Or.inl v_1274⟩ (Nat.le_of_ble_eq_true rfl) (cx_Swaps_whyIn_0 (I kx_now_swaps_rows ((((I kx_now_swaps 1) - 1) - v1) &&& 1023).toNatClampNeg) hT) (Nat.le_refl _) (Nat.le_refl _) hc hs (fun j h9 => by cases h9) (fun _ _ => rfl) ?_
        show ab_E w (d + 2) mt_K_swap 76 [.ref kx, .int v1, .int v2, .int (I kx_now_swaps_rows ((((I kx_now_swaps 1) - 1) - v1) &&& 1023).toNatClampNeg)] [.int ((ab_ushr (I kx_now_swaps_rows ((((I kx_now_swaps 1) - 1) - v1) &&& 1023).toNatClampNeg) 15) &&& 7)] (I, L, ab_RR, n, nc, ns) res
        exact ab_iret (ty := .int) d_K_swap_76 rfl rfl h
      by_cases c12 : v2 = 1
      · have h := h.2.1 c12
        refine ab_tabIn (tgt := 77) d_K_swap_39 (by rw [c12]; decide) (by rw [c12]; decide) (by rw [ab_tab_in (j := 1) c12 (by decide)]; rfl) (by decide) ?_
        refine ab_iload_n (i := 3) d_K_swap_77 rfl rfl ?_
        refine ab_callS (me2 := mt_Swaps_cableIn) (as := [.int (I kx_now_swaps_rows ((((I kx_now_swaps 1) - 1) - v1) &&& 1023).toNatClampNeg)]) (st := []) (rv := (some (.int ((ab_ushr (I kx_now_swaps_rows ((((I kx_now_swaps 1) - 1) - v1) &&& 1023).toNatClampNeg) 10) &&& 31)))) (M2 := (I, L, ab_RR, n, nc, ns)) d_K_swap_78 ce_Swaps_cableIn ⟨v_1278, Or.inl v_1277⟩ (Nat.le_of_ble_eq_true rfl) (cx_Swaps_cableIn_0 (I kx_now_swaps_rows ((((I kx_now_swaps 1) - 1) - v1) &&& 1023).toNatClampNeg) hT) (Nat.le_refl _) (Nat.le_refl _) hc hs (fun j h9 => by cases h9) (fun _ _ => rfl) ?_
        show ab_E w (d + 2) mt_K_swap 81 [.ref kx, .int v1, .int v2, .int (I kx_now_swaps_rows ((((I kx_now_swaps 1) - 1) - v1) &&& 1023).toNatClampNeg)] [.int ((ab_ushr (I kx_now_swaps_rows ((((I kx_now_swaps 1) - 1) - v1) &&& 1023).toNatClampNeg) 10) &&& 31)] (I, L, ab_RR, n, nc, ns) res
        exact ab_iret (ty := .int) d_K_swap_81 rfl rfl h
      by_cases c13 : v2 = 2
      · have h := h.2.2.1 c13
        refine ab_tabIn (tgt := 82) d_K_swap_39 (by rw [c13]; decide) (by rw [c13]; decide) (by rw [ab_tab_in (j := 2) c13 (by decide)]; rfl) (by decide) ?_
        refine ab_iload_n (i := 3) d_K_swap_82 rfl rfl ?_
        refine ab_callS (me2 := mt_Swaps_outIn) (as := [.int (I kx_now_swaps_rows ((((I kx_now_swaps 1) - 1) - v1) &&& 1023).toNatClampNeg)]) (st := []) (rv := (some (.int (((ab_ushr (I kx_now_swaps_rows ((((I kx_now_swaps 1) - 1) - v1) &&& 1023).toNatClampNeg) 5) &&& 31) - 1)))) (M2 := (I, L, ab_RR, n, nc, ns)) d_K_swap_83 ce_Swaps_outIn ⟨v_1281, Or.inl v_1280⟩ (Nat.le_of_ble_eq_true rfl) (cx_Swaps_outIn_0 (I kx_now_swaps_rows ((((I kx_now_swaps 1) - 1) - v1) &&& 1023).toNatClampNeg) hT) (Nat.le_refl _) (Nat.le_refl _) hc hs (fun j h9 => by cases h9) (fun _ _ => rfl) ?_
        show ab_E w (d + 2) mt_K_swap 86 [.ref kx, .int v1, .int v2, .int (I kx_now_swaps_rows ((((I kx_now_swaps 1) - 1) - v1) &&& 1023).toNatClampNeg)] [.int (((ab_ushr (I kx_now_swaps_rows ((((I kx_now_swaps 1) - 1) - v1) &&& 1023).toNatClampNeg) 5) &&& 31) - 1)] (I, L, ab_RR, n, nc, ns) res
        exact ab_iret (ty := .int) d_K_swap_86 rfl rfl h
      by_cases c14 : v2 = 3
      · have h := h.2.2.2.1 c14
        refine ab_tabIn (tgt := 87) d_K_swap_39 (by rw [c14]; decide) (by rw [c14]; decide) (by rw [ab_tab_in (j := 3) c14 (by decide)]; rfl) (by decide) ?_
        refine ab_iload_n (i := 3) d_K_swap_87 rfl rfl ?_
        refine ab_callS (me2 := mt_Swaps_inIn) (as := [.int (I kx_now_swaps_rows ((((I kx_now_swaps 1) - 1) - v1) &&& 1023).toNatClampNeg)]) (st := []) (rv := (some (.int (((I kx_now_swaps_rows ((((I kx_now_swaps 1) - 1) - v1) &&& 1023).toNatClampNeg) &&& 31) - 1)))) (M2 := (I, L, ab_RR, n, nc, ns)) d_K_swap_88 ce_Swaps_inIn ⟨v_1284, Or.inl v_1283⟩ (Nat.le_of_ble_eq_true rfl) (cx_Swaps_inIn_0 (I kx_now_swaps_rows ((((I kx_now_swaps 1) - 1) - v1) &&& 1023).toNatClampNeg) hT) (Nat.le_refl _) (Nat.le_refl _) hc hs (fun j h9 => by cases h9) (fun _ _ => rfl) ?_
        show ab_E w (d + 2) mt_K_swap 91 [.ref kx, .int v1, .int v2, .int (I kx_now_swaps_rows ((((I kx_now_swaps 1) - 1) - v1) &&& 1023).toNatClampNeg)] [.int (((I kx_now_swaps_rows ((((I kx_now_swaps 1) - 1) - v1) &&& 1023).toNatClampNeg) &&& 31) - 1)] (I, L, ab_RR, n, nc, ns) res
        exact ab_iret (ty := .int) d_K_swap_91 rfl rfl h
      by_cases c15 : v2 = 4
      · have h := h.2.2.2.2.1 c15
        refine ab_tabIn (tgt := 92) d_K_swap_39 (by rw [c15]; decide) (by rw [c15]; decide) (by rw [ab_tab_in (j := 4) c15 (by decide)]; rfl) (by decide) ?_
        refine ab_iload_n (i := 3) d_K_swap_92 rfl rfl ?_
        refine ab_callS (me2 := mt_Swaps_totalIn) (as := [.int (I kx_now_swaps_rows ((((I kx_now_swaps 1) - 1) - v1) &&& 1023).toNatClampNeg)]) (st := []) (rv := (some (.int (ab_ushr (I kx_now_swaps_rows ((((I kx_now_swaps 1) - 1) - v1) &&& 1023).toNatClampNeg) 18)))) (M2 := (I, L, ab_RR, n, nc, ns)) d_K_swap_93 ce_Swaps_totalIn ⟨v_1287, Or.inl v_1286⟩ (Nat.le_of_ble_eq_true rfl) (cx_Swaps_totalIn_0 (I kx_now_swaps_rows ((((I kx_now_swaps 1) - 1) - v1) &&& 1023).toNatClampNeg) hT) (Nat.le_refl _) (Nat.le_refl _) hc hs (fun j h9 => by cases h9) (fun _ _ => rfl) ?_
        show ab_E w (d + 2) mt_K_swap 96 [.ref kx, .int v1, .int v2, .int (I kx_now_swaps_rows ((((I kx_now_swaps 1) - 1) - v1) &&& 1023).toNatClampNeg)] [.int (ab_ushr (I kx_now_swaps_rows ((((I kx_now_swaps 1) - 1) - v1) &&& 1023).toNatClampNeg) 18)] (I, L, ab_RR, n, nc, ns) res
        exact ab_iret (ty := .int) d_K_swap_96 rfl rfl h
      have hr : v2.toInt < 0 ∨ 4 < v2.toInt := by
        rcases Int.lt_or_le v2.toInt 0 with h9 | h9
        · exact Or.inl h9
        · refine Or.inr (Int.not_le.mp fun h8 => ?_)
          exact ab_tab_out (lo := 0) (hi := 4) (k := 5) h9 h8 (by decide) (by
            intro j hj
            match j, hj with
            | 0, _ => exact c11
            | 1, _ => exact c12
            | 2, _ => exact c13
            | 3, _ => exact c14
            | 4, _ => exact c15
            | j9 + 5, hj => exact absurd hj (by omega))
      have h := h.2.2.2.2.2 hr
      refine ab_tabOut (tgt := 97) d_K_swap_39 hr (by decide) ?_
      exact ab_throw (E := "java/util/NoSuchElementException") d_K_swap_97 d_K_swap_100 d_K_swap_101 d_K_swap_104 (by decide +kernel) rfl v_1049 v_163 x3_K_185 x4_K_185 h8 (Nat.le_of_ble_eq_true rfl) h
    · have h := h.2 c3
      exact ab_throw (E := "java/util/NoSuchElementException") d_K_swap_18 d_K_swap_21 d_K_swap_22 d_K_swap_25 (by decide +kernel) rfl v_1049 v_163 x3_K_185 x4_K_185 h8 (Nat.le_of_ble_eq_true rfl) h
theorem cx_Cables_has_0 {w : ab_Wd} {d n nc ns : Nat} {I : Nat → Nat → Int32} {L : Nat → Nat → Int64} (v1 : Int32) (hT : w.1.stackTraces = false) (e1 : v1 < 0) : ab_C w d mt_Cables_has [.ref kx_now_cables, .int v1] (I, L, ab_RR, n, nc, ns) (.inl (some (.int 0)), (I, L, ab_RR, n, nc, ns)) := by
  refine ab_C_of (by decide) rfl (Nat.le_of_ble_eq_true rfl) hT ?_
  have hc := Nat.le_refl nc
  have hs := Nat.le_refl ns
  refine ab_iload_n (i := 1) d_Cables_has_0 rfl rfl ?_
  refine ab_if_lt (tgt := 16) d_Cables_has_1 (by decide) (fun _ => ?_) (fun c9 => absurd e1 c9)
  refine ab_iconst (v := 0) d_Cables_has_16 rfl ?_
  exact ab_iret (ty := .boolean) d_Cables_has_17 rfl rfl rfl
theorem cx_Cables_has_1 {w : ab_Wd} {d n nc ns : Nat} {I : Nat → Nat → Int32} {L : Nat → Nat → Int64} (v1 : Int32) (hT : w.1.stackTraces = false) (e1 : ¬ v1 < 0) (e2 : (I kx_now_cables 1) ≤ v1) : ab_C w d mt_Cables_has [.ref kx_now_cables, .int v1] (I, L, ab_RR, n, nc, ns) (.inl (some (.int 0)), (I, L, ab_RR, n, nc, ns)) := by
  refine ab_C_of (by decide) rfl (Nat.le_of_ble_eq_true rfl) hT ?_
  have hc := Nat.le_refl nc
  have hs := Nat.le_refl ns
  refine ab_iload_n (i := 1) d_Cables_has_0 rfl rfl ?_
  refine ab_if_lt (tgt := 16) d_Cables_has_1 (by decide) (fun c9 => absurd c9 e1) (fun _ => ?_)
  refine ab_iload_n (i := 1) d_Cables_has_4 rfl rfl ?_
  refine ab_aload_n (i := 0) d_Cables_has_5 rfl rfl ?_
  refine ab_getI (ci := 1) (k := 1) d_Cables_has_6 v_192 rfl (by decide) (by decide) rfl ?_
  refine ab_icmp_ge (tgt := 16) d_Cables_has_9 (by decide) (fun _ => ?_) (fun c9 => absurd e2 c9)
  refine ab_iconst (v := 0) d_Cables_has_16 rfl ?_
  exact ab_iret (ty := .boolean) d_Cables_has_17 rfl rfl rfl
theorem cx_Cables_has_2 {w : ab_Wd} {d n nc ns : Nat} {I : Nat → Nat → Int32} {L : Nat → Nat → Int64} (v1 : Int32) (hT : w.1.stackTraces = false) (e1 : ¬ v1 < 0) (e2 : ¬ (I kx_now_cables 1) ≤ v1) : ab_C w d mt_Cables_has [.ref kx_now_cables, .int v1] (I, L, ab_RR, n, nc, ns) (.inl (some (.int 1)), (I, L, ab_RR, n, nc, ns)) := by
  refine ab_C_of (by decide) rfl (Nat.le_of_ble_eq_true rfl) hT ?_
  have hc := Nat.le_refl nc
  have hs := Nat.le_refl ns
  refine ab_iload_n (i := 1) d_Cables_has_0 rfl rfl ?_
  refine ab_if_lt (tgt := 16) d_Cables_has_1 (by decide) (fun c9 => absurd c9 e1) (fun _ => ?_)
  refine ab_iload_n (i := 1) d_Cables_has_4 rfl rfl ?_
  refine ab_aload_n (i := 0) d_Cables_has_5 rfl rfl ?_
  refine ab_getI (ci := 1) (k := 1) d_Cables_has_6 v_192 rfl (by decide) (by decide) rfl ?_
  refine ab_icmp_ge (tgt := 16) d_Cables_has_9 (by decide) (fun c9 => absurd c9 e2) (fun _ => ?_)
  refine ab_iconst (v := 1) d_Cables_has_12 rfl ?_
  refine ab_goto (tgt := 17) d_Cables_has_13 (by decide) ?_
  exact ab_iret (ty := .boolean) d_Cables_has_17 rfl rfl rfl
