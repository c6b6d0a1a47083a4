theorem r_Cables_copy_3_0 {w : ab_Wd} {d n nc ns : Nat} {I : Nat → Nat → Int32} {L : Nat → Nat → Int64} {res : ab_Re} (hT : w.1.stackTraces = false)  (hc : nc ≤ res.2.2.2.2.2.1) (hs : ns ≤ res.2.2.2.2.2.2)
    (h : res = (.inl none, ((ab_row (ab_row (ab_row (ab_row (ab_row (ab_up (ab_up (ab_up I kx_now_cables 0 (I kx_kept_cables 0)) kx_now_cables 1 (I kx_kept_cables 1)) kx_now_cables 2 (I kx_kept_cables 2)) kx_now_cables_first (va_cpy (I kx_kept_cables_first) (I kx_now_cables_first) 0 0 24)) kx_now_cables_second (va_cpy (I kx_kept_cables_second) (I kx_now_cables_second) 0 0 24)) kx_now_cables_price (va_cpy (I kx_kept_cables_price) (I kx_now_cables_price) 0 0 24)) kx_now_cables_firm (va_cpy (I kx_kept_cables_firm) (I kx_now_cables_firm) 0 0 24)) kx_now_cables_order (va_cpy (I kx_kept_cables_order) (I kx_now_cables_order) 0 0 24)), L, ab_RR, n, nc, ns))) : ab_E w (d + 1) mt_Cables_copy 0 [.ref kx_now_cables, .ref kx_kept_cables] [] (I, L, ab_RR, n, nc, ns) res := by
  refine ab_aload_n (i := 0) d_Cables_copy_0 rfl rfl ?_
  refine ab_aload_n (i := 1) d_Cables_copy_1 rfl rfl ?_
  refine ab_getI (ci := 1) (k := 0) d_Cables_copy_2 v_185 rfl (by decide) (by decide) rfl ?_
  refine ab_putI (ci := 1) (k := 0) d_Cables_copy_5 v_185 rfl (by decide) (by decide) rfl (Or.inl rfl) rfl rfl ?_
  refine ab_aload_n (i := 0) d_Cables_copy_8 rfl rfl ?_
  refine ab_aload_n (i := 1) d_Cables_copy_9 rfl rfl ?_
  refine ab_getI (ci := 1) (k := 1) d_Cables_copy_10 v_192 rfl (by decide) (by decide) rfl ?_
  refine ab_putI (ci := 1) (k := 1) d_Cables_copy_13 v_192 rfl (by decide) (by decide) rfl (Or.inl rfl) rfl rfl ?_
  refine ab_aload_n (i := 0) d_Cables_copy_16 rfl rfl ?_
  refine ab_aload_n (i := 1) d_Cables_copy_17 rfl rfl ?_
  refine ab_getI (ci := 1) (k := 2) d_Cables_copy_18 v_200 rfl (by decide) (by decide) rfl ?_
  refine ab_putI (ci := 1) (k := 2) d_Cables_copy_21 v_200 rfl (by decide) (by decide) rfl (Or.inl rfl) rfl rfl ?_
  refine ab_aload_n (i := 1) d_Cables_copy_24 rfl rfl ?_
  refine ab_getR (ci := 1) (k := 3) (j := kx_kept_cables_first) d_Cables_copy_25 v_204 rfl (by decide) (by decide) rfl r_kx_kept_cables_3 ?_
  refine ab_iconst (v := 0) d_Cables_copy_28 rfl ?_
  refine ab_aload_n (i := 0) d_Cables_copy_29 rfl rfl ?_
  refine ab_getR (ci := 1) (k := 3) (j := kx_now_cables_first) d_Cables_copy_30 v_204 rfl (by decide) (by decide) rfl r_kx_now_cables_3 ?_
  refine ab_iconst (v := 0) d_Cables_copy_33 rfl ?_
  refine ab_bipush (v := 24) d_Cables_copy_34 rfl ?_
  refine ab_copy d_Cables_copy_36 v_675 v_562 v_561 v_161 rfl rfl rfl rfl (by decide) (by decide) (by decide) (by decide) (by decide) (Nat.succ_le_succ (Nat.zero_le _)) (Nat.le_of_ble_eq_true rfl) ?_
  refine ab_aload_n (i := 1) d_Cables_copy_39 rfl rfl ?_
  refine ab_getR (ci := 1) (k := 4) (j := kx_kept_cables_second) d_Cables_copy_40 v_211 rfl (by decide) (by decide) rfl r_kx_kept_cables_4 ?_
  refine ab_iconst (v := 0) d_Cables_copy_43 rfl ?_
  refine ab_aload_n (i := 0) d_Cables_copy_44 rfl rfl ?_
  refine ab_getR (ci := 1) (k := 4) (j := kx_now_cables_second) d_Cables_copy_45 v_211 rfl (by decide) (by decide) rfl r_kx_now_cables_4 ?_
  refine ab_iconst (v := 0) d_Cables_copy_48 rfl ?_
  refine ab_bipush (v := 24) d_Cables_copy_49 rfl ?_
  refine ab_copy d_Cables_copy_51 v_675 v_562 v_561 v_161 rfl rfl rfl rfl (by decide) (by decide) (by decide) (by decide) (by decide) (Nat.succ_le_succ (Nat.zero_le _)) (Nat.le_of_ble_eq_true rfl) ?_
  refine ab_aload_n (i := 1) d_Cables_copy_54 rfl rfl ?_
  refine ab_getR (ci := 1) (k := 5) (j := kx_kept_cables_price) d_Cables_copy_55 v_218 rfl (by decide) (by decide) rfl r_kx_kept_cables_5 ?_
  refine ab_iconst (v := 0) d_Cables_copy_58 rfl ?_
  refine ab_aload_n (i := 0) d_Cables_copy_59 rfl rfl ?_
  refine ab_getR (ci := 1) (k := 5) (j := kx_now_cables_price) d_Cables_copy_60 v_218 rfl (by decide) (by decide) rfl r_kx_now_cables_5 ?_
  refine ab_iconst (v := 0) d_Cables_copy_63 rfl ?_
  refine ab_bipush (v := 24) d_Cables_copy_64 rfl ?_
  refine ab_copy d_Cables_copy_66 v_675 v_562 v_561 v_161 rfl rfl rfl rfl (by decide) (by decide) (by decide) (by decide) (by decide) (Nat.succ_le_succ (Nat.zero_le _)) (Nat.le_of_ble_eq_true rfl) ?_
  refine ab_aload_n (i := 1) d_Cables_copy_69 rfl rfl ?_
  refine ab_getR (ci := 1) (k := 6) (j := kx_kept_cables_firm) d_Cables_copy_70 v_226 rfl (by decide) (by decide) rfl r_kx_kept_cables_6 ?_
  refine ab_iconst (v := 0) d_Cables_copy_73 rfl ?_
  refine ab_aload_n (i := 0) d_Cables_copy_74 rfl rfl ?_
  refine ab_getR (ci := 1) (k := 6) (j := kx_now_cables_firm) d_Cables_copy_75 v_226 rfl (by decide) (by decide) rfl r_kx_now_cables_6 ?_
  refine ab_iconst (v := 0) d_Cables_copy_78 rfl ?_
  refine ab_bipush (v := 24) d_Cables_copy_79 rfl ?_
  refine ab_copy d_Cables_copy_81 v_675 v_562 v_561 v_161 rfl rfl rfl rfl (by decide) (by decide) (by decide) (by decide) (by decide) (Nat.succ_le_succ (Nat.zero_le _)) (Nat.le_of_ble_eq_true rfl) ?_
  refine ab_aload_n (i := 1) d_Cables_copy_84 rfl rfl ?_
  refine ab_getR (ci := 1) (k := 7) (j := kx_kept_cables_order) d_Cables_copy_85 v_229 rfl (by decide) (by decide) rfl r_kx_kept_cables_7 ?_
  refine ab_iconst (v := 0) d_Cables_copy_88 rfl ?_
  refine ab_aload_n (i := 0) d_Cables_copy_89 rfl rfl ?_
  refine ab_getR (ci := 1) (k := 7) (j := kx_now_cables_order) d_Cables_copy_90 v_229 rfl (by decide) (by decide) rfl r_kx_now_cables_7 ?_
  refine ab_iconst (v := 0) d_Cables_copy_93 rfl ?_
  refine ab_bipush (v := 24) d_Cables_copy_94 rfl ?_
  refine ab_copy d_Cables_copy_96 v_675 v_562 v_561 v_161 rfl rfl rfl rfl (by decide) (by decide) (by decide) (by decide) (by decide) (Nat.succ_le_succ (Nat.zero_le _)) (Nat.le_of_ble_eq_true rfl) ?_
  exact ab_vret d_Cables_copy_99 rfl h
theorem r_Swaps_copy_1_0 {w : ab_Wd} {d n nc ns : Nat} {I : Nat → Nat → Int32} {L : Nat → Nat → Int64} {res : ab_Re} (hT : w.1.stackTraces = false)  (hc : nc ≤ res.2.2.2.2.2.1) (hs : ns ≤ res.2.2.2.2.2.2)
    (h : res = (.inl none, ((ab_row (ab_up I kx_now_swaps 1 (I kx_kept_swaps 1)) kx_now_swaps_rows (va_cpy (I kx_kept_swaps_rows) (I kx_now_swaps_rows) 0 0 1024)), L, ab_RR, n, nc, ns))) : ab_E w (d + 1) mt_Swaps_copy 0 [.ref kx_now_swaps, .ref kx_kept_swaps] [] (I, L, ab_RR, n, nc, ns) res := by
  refine ab_aload_n (i := 0) d_Swaps_copy_0 rfl rfl ?_
  refine ab_aload_n (i := 1) d_Swaps_copy_1 rfl rfl ?_
  refine ab_getI (ci := 7) (k := 1) d_Swaps_copy_2 v_259 rfl (by decide) (by decide) rfl ?_
  refine ab_putI (ci := 7) (k := 1) d_Swaps_copy_5 v_259 rfl (by decide) (by decide) rfl (Or.inl rfl) rfl rfl ?_
  refine ab_aload_n (i := 1) d_Swaps_copy_8 rfl rfl ?_
  refine ab_getR (ci := 7) (k := 0) (j := kx_kept_swaps_rows) d_Swaps_copy_9 v_258 rfl (by decide) (by decide) rfl r_kx_kept_swaps_0 ?_
  refine ab_iconst (v := 0) d_Swaps_copy_12 rfl ?_
  refine ab_aload_n (i := 0) d_Swaps_copy_13 rfl rfl ?_
  refine ab_getR (ci := 7) (k := 0) (j := kx_now_swaps_rows) d_Swaps_copy_14 v_258 rfl (by decide) (by decide) rfl r_kx_now_swaps_0 ?_
  refine ab_iconst (v := 0) d_Swaps_copy_17 rfl ?_
  refine ab_sipush (v := 1024) d_Swaps_copy_18 rfl ?_
  refine ab_copy d_Swaps_copy_21 v_680 v_562 v_561 v_161 rfl rfl rfl rfl (by decide) (by decide) (by decide) (by decide) (by decide) (Nat.succ_le_succ (Nat.zero_le _)) (Nat.le_of_ble_eq_true rfl) ?_
  exact ab_vret d_Swaps_copy_24 rfl h
theorem r_K_unite_1_0 {w : ab_Wd} {d n nc ns : Nat} {I : Nat → Nat → Int32} {L : Nat → Nat → Int64} {res : ab_Re} (hT : w.1.stackTraces = false) (v1 : Int32) (v2 : Int32) (hc : nc ≤ res.2.2.2.2.2.1) (hs : ns ≤ res.2.2.2.2.2.2)
    (h : (vp_in v1 10) ∧ (vp_in v2 10) ∧ ((¬ (ab_min32 (I kx_forest_piece v1.toNatClampNeg) (I kx_forest_piece v2.toNatClampNeg)) = (ab_max32 (I kx_forest_piece v1.toNatClampNeg) (I kx_forest_piece v2.toNatClampNeg)) → (ab_E w (d + 1) mt_K_unite 33 [.ref kx_forest_piece, .int v1, .int v2, .int (ab_min32 (I kx_forest_piece v1.toNatClampNeg) (I kx_forest_piece v2.toNatClampNeg)), .int (ab_max32 (I kx_forest_piece v1.toNatClampNeg) (I kx_forest_piece v2.toNatClampNeg)), .int (ab_max32 (I kx_forest_piece v1.toNatClampNeg) (I kx_forest_piece v2.toNatClampNeg))] [] (I, L, ab_RR, n, nc, ns) res)) ∧ ((ab_min32 (I kx_forest_piece v1.toNatClampNeg) (I kx_forest_piece v2.toNatClampNeg)) = (ab_max32 (I kx_forest_piece v1.toNatClampNeg) (I kx_forest_piece v2.toNatClampNeg)) → (res = (.inl (some (.int 0)), (I, L, ab_RR, n, nc, ns)))))) : ab_E w (d + 1) mt_K_unite 0 [.ref kx_forest_piece, .int v1, .int v2, .null, .null, .null] [] (I, L, ab_RR, n, nc, ns) res := by
  refine ab_aload_n (i := 0) d_K_unite_0 rfl rfl ?_
  refine ab_iload_n (i := 1) d_K_unite_1 rfl rfl ?_
  have g1 := h.1; have h := h.2
  refine ab_iald d_K_unite_2 rfl rfl g1 ?_
  refine ab_aload_n (i := 0) d_K_unite_3 rfl rfl ?_
  refine ab_iload_n (i := 2) d_K_unite_4 rfl rfl ?_
  have g2 := h.1; have h := h.2
  refine ab_iald d_K_unite_5 rfl rfl g2 ?_
  refine ab_min d_K_unite_6 v_447 v_448 v_150 v_449 (Nat.succ_le_succ (Nat.zero_le _)) (Nat.le_of_ble_eq_true rfl) hc hs ?_
  refine ab_istore_n (i := 3) d_K_unite_9 rfl (by decide) (Or.inr rfl) ?_
  refine ab_aload_n (i := 0) d_K_unite_10 rfl rfl ?_
  refine ab_iload_n (i := 1) d_K_unite_11 rfl rfl ?_
  refine ab_iald d_K_unite_12 rfl rfl g1 ?_
  refine ab_aload_n (i := 0) d_K_unite_13 rfl rfl ?_
  refine ab_iload_n (i := 2) d_K_unite_14 rfl rfl ?_
  refine ab_iald d_K_unite_15 rfl rfl g2 ?_
  refine ab_max d_K_unite_16 v_450 v_451 v_150 v_452 (Nat.succ_le_succ (Nat.zero_le _)) (Nat.le_of_ble_eq_true rfl) hc hs ?_
  refine ab_istore (i := 4) d_K_unite_19 (by decide) (Or.inr rfl) ?_
  refine ab_iload_n (i := 3) d_K_unite_21 rfl rfl ?_
  refine ab_iload (i := 4) d_K_unite_22 rfl ?_
  refine ab_icmp_ne (tgt := 29) d_K_unite_24 (by decide) (fun c3 => ?_) (fun c3 => ?_)
  · have h := h.1 c3
    refine ab_iload (i := 4) d_K_unite_29 rfl ?_
    refine ab_istore (i := 5) d_K_unite_31 (by decide) (Or.inr rfl) ?_
    exact h
  · have h := h.2 c3
    refine ab_iconst (v := 0) d_K_unite_27 rfl ?_
    exact ab_iret (ty := .boolean) d_K_unite_28 rfl rfl h
theorem r_K_unite_1_33 {w : ab_Wd} {d n nc ns : Nat} {I : Nat → Nat → Int32} {L : Nat → Nat → Int64} {res : ab_Re} (hT : w.1.stackTraces = false) (v1 : Int32) (v2 : Int32) (v3 : Int32) (v4 : Int32) (v5 : Int32) (hc : nc ≤ res.2.2.2.2.2.1) (hs : ns ≤ res.2.2.2.2.2.2)
    (h : ((10 ≤ v5 → (res = (.inl (some (.int 1)), (I, L, ab_RR, n, nc, ns)))) ∧ (¬ 10 ≤ v5 → ((vp_in v5 10) ∧ ((¬ (I kx_forest_piece v5.toNatClampNeg) = v4 → (ab_E w (d + 1) mt_K_unite 33 [.ref kx_forest_piece, .int v1, .int v2, .int v3, .int v4, .int (v5 + 1)] [] (I, L, ab_RR, n, nc, ns) res)) ∧ ((I kx_forest_piece v5.toNatClampNeg) = v4 → (ab_E w (d + 1) mt_K_unite 33 [.ref kx_forest_piece, .int v1, .int v2, .int v3, .int v4, .int (v5 + 1)] [] ((ab_up I kx_forest_piece v5.toNatClampNeg v3), L, ab_RR, n, nc, ns) res))))))) : ab_E w (d + 1) mt_K_unite 33 [.ref kx_forest_piece, .int v1, .int v2, .int v3, .int v4, .int v5] [] (I, L, ab_RR, n, nc, ns) res := by
  refine ab_iload (i := 5) d_K_unite_33 rfl ?_
  refine ab_aload_n (i := 0) d_K_unite_35 rfl rfl ?_
  refine ab_alen (v := 10) d_K_unite_36 (by decide) (by decide) rfl ?_
  refine ab_icmp_ge (tgt := 60) d_K_unite_37 (by decide) (fun c1 => ?_) (fun c1 => ?_)
  · have h := h.1 c1
    refine ab_iconst (v := 1) d_K_unite_60 rfl ?_
    exact ab_iret (ty := .boolean) d_K_unite_61 rfl rfl h
  · have h := h.2 c1
    refine ab_aload_n (i := 0) d_K_unite_40 rfl rfl ?_
    refine ab_iload (i := 5) d_K_unite_41 rfl ?_
    have g2 := h.1; have h := h.2
    refine ab_iald d_K_unite_43 rfl rfl g2 ?_
    refine ab_iload (i := 4) d_K_unite_44 rfl ?_
    refine ab_icmp_ne (tgt := 54) d_K_unite_46 (by decide) (fun c3 => ?_) (fun c3 => ?_)
    · have h := h.1 c3
      refine ab_iinc (i := 5) (v := (v5 + 1)) d_K_unite_54 rfl rfl (by decide) (Or.inr rfl) ?_
      refine ab_goto (tgt := 33) d_K_unite_57 (by decide) ?_
      exact h
    · have h := h.2 c3
      refine ab_aload_n (i := 0) d_K_unite_49 rfl rfl ?_
      refine ab_iload (i := 5) d_K_unite_50 rfl ?_
      refine ab_iload_n (i := 3) d_K_unite_52 rfl rfl ?_
      refine ab_iast d_K_unite_53 rfl rfl g2 ?_
      refine ab_iinc (i := 5) (v := (v5 + 1)) d_K_unite_54 rfl rfl (by decide) (Or.inr rfl) ?_
      refine ab_goto (tgt := 33) d_K_unite_57 (by decide) ?_
      exact h
theorem r_Roads_measureOver_0 {w : ab_Wd} {d n nc ns : Nat} {I : Nat → Nat → Int32} {L : Nat → Nat → Int64} {res : ab_Re} (hT : w.1.stackTraces = false) (v1 : Int32) (hc : nc ≤ res.2.2.2.2.2.1) (hs : ns ≤ res.2.2.2.2.2.2)
    (h : ab_E w (d + 2) mt_Roads_measureOver 2 [.ref kx_roads, .int v1, .int 0, .null, .null] [] (I, L, ab_RR, n, nc, ns) res) : ab_E w (d + 2) mt_Roads_measureOver 0 [.ref kx_roads, .int v1, .null, .null, .null] [] (I, L, ab_RR, n, nc, ns) res := by
  refine ab_iconst (v := 0) d_Roads_measureOver_0 rfl ?_
  refine ab_istore_n (i := 2) d_Roads_measureOver_1 rfl (by decide) (Or.inr rfl) ?_
  exact h
theorem r_Roads_measureOver_2 {w : ab_Wd} {d n nc ns : Nat} {I : Nat → Nat → Int32} {L : Nat → Nat → Int64} {res : ab_Re} (hT : w.1.stackTraces = false) (v1 : Int32) (v2 : Int32) (hc : nc ≤ res.2.2.2.2.2.1) (hs : ns ≤ res.2.2.2.2.2.2)
    (h : (((I kx_roads 0) ≤ v2 → (res = (.inl none, (I, L, ab_RR, n, nc, ns)))) ∧ (¬ (I kx_roads 0) ≤ v2 → ((vp_in ((v2 * 10) + v1) 100) ∧ ab_E w (d + 2) mt_Roads_measureOver 20 [.ref kx_roads, .int v1, .int v2, .int (I kx_roads_lengths ((v2 * 10) + v1).toNatClampNeg), .int 0] [] (I, L, ab_RR, n, nc, ns) res)))) : ab_E w (d + 2) mt_Roads_measureOver 2 [.ref kx_roads, .int v1, .int v2, .null, .null] [] (I, L, ab_RR, n, nc, ns) res := by
  refine ab_iload_n (i := 2) d_Roads_measureOver_2 rfl rfl ?_
  refine ab_aload_n (i := 0) d_Roads_measureOver_3 rfl rfl ?_
  refine ab_getI (ci := 5) (k := 0) d_Roads_measureOver_4 v_385 rfl (by decide) (by decide) rfl ?_
  refine ab_icmp_ge (tgt := 63) d_Roads_measureOver_7 (by decide) (fun c1 => ?_) (fun c1 => ?_)
  · have h := h.1 c1
    exact ab_vret d_Roads_measureOver_63 rfl h
  · have h := h.2 c1
    refine ab_aload_n (i := 0) d_Roads_measureOver_10 rfl rfl ?_
    refine ab_iload_n (i := 2) d_Roads_measureOver_11 rfl rfl ?_
    refine ab_iload_n (i := 1) d_Roads_measureOver_12 rfl rfl ?_
    have g3 := h.1; have h := h.2
    refine ab_callV (me2 := mt_Roads_length) (b := kx_roads) (as := [.int v2, .int v1]) (st := []) (rv := (some (.int (I kx_roads_lengths ((v2 * 10) + v1).toNatClampNeg)))) (M2 := (I, L, ab_RR, n, nc, ns)) d_Roads_measureOver_13 ce_Roads_length v_1044 v_1045 v_1046 (by decide) rfl (Nat.le_of_ble_eq_true rfl) (cx_Roads_length_0 v2 v1 hT g3) (Nat.le_refl _) (Nat.le_refl _) hc hs (fun j h9 => by cases h9) (fun _ _ => rfl) ?_
    show ab_E w (d + 2) mt_Roads_measureOver 16 [.ref kx_roads, .int v1, .int v2, .null, .null] [.int (I kx_roads_lengths ((v2 * 10) + v1).toNatClampNeg)] (I, L, ab_RR, n, nc, ns) res
    refine ab_istore_n (i := 3) d_Roads_measureOver_16 rfl (by decide) (Or.inr rfl) ?_
    refine ab_iconst (v := 0) d_Roads_measureOver_17 rfl ?_
    refine ab_istore (i := 4) d_Roads_measureOver_18 (by decide) (Or.inr rfl) ?_
    exact h
theorem r_Roads_measureOver_20 {w : ab_Wd} {d n nc ns : Nat} {I : Nat → Nat → Int32} {L : Nat → Nat → Int64} {res : ab_Re} (hT : w.1.stackTraces = false) (v1 : Int32) (v2 : Int32) (v3 : Int32) (v4 : Int32) (hc : nc ≤ res.2.2.2.2.2.1) (hs : ns ≤ res.2.2.2.2.2.2)
    (h : (((I kx_roads 0) ≤ v4 → (ab_E w (d + 2) mt_Roads_measureOver 2 [.ref kx_roads, .int v1, .int (v2 + 1), .null, .null] [] (I, L, ab_RR, n, nc, ns) res)) ∧ (¬ (I kx_roads 0) ≤ v4 → ((1000000 ≤ v3 → (ab_E w (d + 2) mt_Roads_measureOver 2 [.ref kx_roads, .int v1, .int (v2 + 1), .null, .null] [] (I, L, ab_RR, n, nc, ns) res)) ∧ (¬ 1000000 ≤ v3 → ((vp_in ((v1 * 10) + v4) 100) ∧ (vp_in ((v2 * 10) + v4) 100) ∧ ab_E w (d + 2) mt_Roads_measureOver 20 [.ref kx_roads, .int v1, .int v2, .int v3, .int (v4 + 1)] [] ((ab_up I kx_roads_lengths ((v2 * 10) + v4).toNatClampNeg (ab_min32 (I kx_roads_lengths ((v2 * 10) + v4).toNatClampNeg) (v3 + (I kx_roads_lengths ((v1 * 10) + v4).toNatClampNeg)))), L, ab_RR, n, nc, ns) res)))))) : ab_E w (d + 2) mt_Roads_measureOver 20 [.ref kx_roads, .int v1, .int v2, .int v3, .int v4] [] (I, L, ab_RR, n, nc, ns) res := by
  refine ab_iload (i := 4) d_Roads_measureOver_20 rfl ?_
  refine ab_aload_n (i := 0) d_Roads_measureOver_22 rfl rfl ?_
  refine ab_getI (ci := 5) (k := 0) d_Roads_measureOver_23 v_385 rfl (by decide) (by decide) rfl ?_
  refine ab_icmp_ge (tgt := 57) d_Roads_measureOver_26 (by decide) (fun c1 => ?_) (fun c1 => ?_)
  · have h := h.1 c1
    refine ab_iinc (i := 2) (v := (v2 + 1)) d_Roads_measureOver_57 rfl rfl (by decide) (Or.inr rfl) ?_
    refine ab_goto (tgt := 2) d_Roads_measureOver_60 (by decide) ?_
    refine ab_drop 3 ?_
    refine ab_drop 4 ?_
    exact h
  · have h := h.2 c1
    refine ab_iload_n (i := 3) d_Roads_measureOver_29 rfl rfl ?_
    refine ab_ldc (v := 1000000) d_Roads_measureOver_30 v_1033 ?_
    refine ab_icmp_ge (tgt := 57) d_Roads_measureOver_32 (by decide) (fun c2 => ?_) (fun c2 => ?_)
    · have h := h.1 c2
      refine ab_iinc (i := 2) (v := (v2 + 1)) d_Roads_measureOver_57 rfl rfl (by decide) (Or.inr rfl) ?_
      refine ab_goto (tgt := 2) d_Roads_measureOver_60 (by decide) ?_
      refine ab_drop 3 ?_
      refine ab_drop 4 ?_
      exact h
    · have h := h.2 c2
      refine ab_aload_n (i := 0) d_Roads_measureOver_35 rfl rfl ?_
      refine ab_iload_n (i := 2) d_Roads_measureOver_36 rfl rfl ?_
      refine ab_iload (i := 4) d_Roads_measureOver_37 rfl ?_
      refine ab_iload_n (i := 3) d_Roads_measureOver_39 rfl rfl ?_
      refine ab_aload_n (i := 0) d_Roads_measureOver_40 rfl rfl ?_
      refine ab_iload_n (i := 1) d_Roads_measureOver_41 rfl rfl ?_
      refine ab_iload (i := 4) d_Roads_measureOver_42 rfl ?_
      have g4 := h.1; have h := h.2
      refine ab_callV (me2 := mt_Roads_length) (b := kx_roads) (as := [.int v1, .int v4]) (st := [.int v3, .int v4, .int v2, .ref kx_roads]) (rv := (some (.int (I kx_roads_lengths ((v1 * 10) + v4).toNatClampNeg)))) (M2 := (I, L, ab_RR, n, nc, ns)) d_Roads_measureOver_44 ce_Roads_length v_1044 v_1045 v_1046 (by decide) rfl (Nat.le_of_ble_eq_true rfl) (cx_Roads_length_0 v1 v4 hT g4) (Nat.le_refl _) (Nat.le_refl _) hc hs (fun j h9 => by cases h9) (fun _ _ => rfl) ?_
      show ab_E w (d + 2) mt_Roads_measureOver 47 [.ref kx_roads, .int v1, .int v2, .int v3, .int v4] [.int (I kx_roads_lengths ((v1 * 10) + v4).toNatClampNeg), .int v3, .int v4, .int v2, .ref kx_roads] (I, L, ab_RR, n, nc, ns) res
      refine ab_iadd d_Roads_measureOver_47 ?_
      have g7 := h.1; have h := h.2
      refine ab_callV (me2 := mt_Roads_shorten) (b := kx_roads) (as := [.int v2, .int v4, .int (v3 + (I kx_roads_lengths ((v1 * 10) + v4).toNatClampNeg))]) (st := []) (rv := none) (M2 := ((ab_up I kx_roads_lengths ((v2 * 10) + v4).toNatClampNeg (ab_min32 (I kx_roads_lengths ((v2 * 10) + v4).toNatClampNeg) (v3 + (I kx_roads_lengths ((v1 * 10) + v4).toNatClampNeg)))), L, ab_RR, n, nc, ns)) d_Roads_measureOver_48 ce_Roads_shorten v_1034 v_1036 v_41 (by decide) rfl (Nat.le_of_ble_eq_true rfl) (cx_Roads_shorten_0 v2 v4 (v3 + (I kx_roads_lengths ((v1 * 10) + v4).toNatClampNeg)) hT g7 g7) (Nat.le_refl _) (Nat.le_refl _) hc hs (fun j h9 => by cases h9) (fun _ _ => rfl) ?_
      show ab_E w (d + 2) mt_Roads_measureOver 51 [.ref kx_roads, .int v1, .int v2, .int v3, .int v4] [] ((ab_up I kx_roads_lengths ((v2 * 10) + v4).toNatClampNeg (ab_min32 (I kx_roads_lengths ((v2 * 10) + v4).toNatClampNeg) (v3 + (I kx_roads_lengths ((v1 * 10) + v4).toNatClampNeg)))), L, ab_RR, n, nc, ns) res
      refine ab_iinc (i := 4) (v := (v4 + 1)) d_Roads_measureOver_51 rfl rfl (by decide) (Or.inr rfl) ?_
      refine ab_goto (tgt := 20) d_Roads_measureOver_54 (by decide) ?_
      exact h
theorem r_Str_charAt_0 {w : ab_Wd} {d n nc ns : Nat} {I : Nat → Nat → Int32} {L : Nat → Nat → Int64} {res : ab_Re} (hT : w.1.stackTraces = false) {j : Nat} (hj : j < 8) (v1 : Int32) (hc : nc ≤ res.2.2.2.2.2.1) (hs : ns ≤ res.2.2.2.2.2.2)
    (h : ∃ (r1 : Int32), ab_C w d mt_Str_isLatin1 [.ref (64 * j + 32)] (I, L, ab_RR, n, nc, ns) (.inl (some (.int r1)), (I, L, ab_RR, n, nc, ns)) ∧ ((r1 = 0 → (False)) ∧ (¬ r1 = 0 → (∃ (r3 : Int32), ab_C w d mt_Lat_charAt [.ref (64 * j + 33), .int v1] (I, L, ab_RR, n, nc, ns) (.inl (some (.int r3)), (I, L, ab_RR, n, nc, ns)) ∧ (narrow .char (.int r3) = .int r3) ∧ res = (.inl (some (.int r3)), (I, L, ab_RR, n, nc, ns)))))) : ab_E w (d + 1) mt_Str_charAt 0 [.ref (64 * j + 32), .int v1] [] (I, L, ab_RR, n, nc, ns) res := by
  refine ab_aload_n (i := 0) d_Str_charAt_0 rfl rfl ?_
  obtain ⟨r1, hC, h⟩ := h
  refine ab_callT (me2 := mt_Str_isLatin1) (j := j) (as := []) (st := []) (rv := (some (.int r1))) (M2 := (I, L, ab_RR, n, nc, ns)) d_Str_charAt_1 hj ce_Str_isLatin1 v_847 v_848 v_849 rfl (Nat.le_of_ble_eq_true rfl) hC (Nat.le_refl _) (Nat.le_refl _) hc hs (fun j h9 => by cases h9) (fun _ _ => rfl) ?_
  show ab_E w (d + 1) mt_Str_charAt 4 [.ref (64 * j + 32), .int v1] [.int r1] (I, L, ab_RR, n, nc, ns) res
  refine ab_if_eq (tgt := 16) d_Str_charAt_4 (by decide) (fun c2 => ?_) (fun c2 => ?_)
  · have h := h.1 c2
    refine ab_aload_n (i := 0) d_Str_charAt_16 rfl rfl ?_
    refine ab_sgetV (j := j) d_Str_charAt_17 hj v_2015 ?_
    refine ab_iload_n (i := 1) d_Str_charAt_20 rfl rfl ?_
    exact h.elim
  · have h := h.2 c2
    refine ab_aload_n (i := 0) d_Str_charAt_7 rfl rfl ?_
    refine ab_sgetV (j := j) d_Str_charAt_8 hj v_2015 ?_
    refine ab_iload_n (i := 1) d_Str_charAt_11 rfl rfl ?_
    obtain ⟨r3, hC, h⟩ := h
    refine ab_callS (me2 := mt_Lat_charAt) (as := [.ref (64 * j + 33), .int v1]) (st := []) (rv := (some (.int r3))) (M2 := (I, L, ab_RR, n, nc, ns)) d_Str_charAt_12 ce_Lat_charAt ⟨v_852, Or.inl v_851⟩ (Nat.le_of_ble_eq_true rfl) hC (Nat.le_refl _) (Nat.le_refl _) hc hs (fun j h9 => by cases h9) (fun _ _ => rfl) ?_
    show ab_E w (d + 1) mt_Str_charAt 15 [.ref (64 * j + 32), .int v1] [.int r3] (I, L, ab_RR, n, nc, ns) res
    have g4 := h.1; have h := h.2
    exact ab_iret (ty := .char) d_Str_charAt_15 rfl g4 h
theorem r_Str_length_0 {w : ab_Wd} {d n nc ns : Nat} {I : Nat → Nat → Int32} {L : Nat → Nat → Int64} {res : ab_Re} (hT : w.1.stackTraces = false) {j : Nat} (hj : j < 8) (hc : nc ≤ res.2.2.2.2.2.1) (hs : ns ≤ res.2.2.2.2.2.2)
    (h : ∃ (r1 : Int32), ab_C w d mt_Str_coder [.ref (64 * j + 32)] (I, L, ab_RR, n, nc, ns) (.inl (some (.int r1)), (I, L, ab_RR, n, nc, ns)) ∧ res = (.inl (some (.int ((Int32.ofNat (ab_slen.getD j 0)) >>> (r1 &&& 31)))), (I, L, ab_RR, n, nc, ns))) : ab_E w (d + 1) mt_Str_length 0 [.ref (64 * j + 32)] [] (I, L, ab_RR, n, nc, ns) res := by
  refine ab_aload_n (i := 0) d_Str_length_0 rfl rfl ?_
  refine ab_sgetV (j := j) d_Str_length_1 hj v_2015 ?_
  refine ab_sblen (j := j) (v := (Int32.ofNat (ab_slen.getD j 0))) d_Str_length_4 hj rfl ?_
  refine ab_aload_n (i := 0) d_Str_length_5 rfl rfl ?_
  obtain ⟨r1, hC, h⟩ := h
  refine ab_callT (me2 := mt_Str_coder) (j := j) (as := []) (st := [.int (Int32.ofNat (ab_slen.getD j 0))]) (rv := (some (.int r1))) (M2 := (I, L, ab_RR, n, nc, ns)) d_Str_length_6 hj ce_Str_coder v_837 v_838 v_839 rfl (Nat.le_of_ble_eq_true rfl) hC (Nat.le_refl _) (Nat.le_refl _) hc hs (fun j h9 => by cases h9) (fun _ _ => rfl) ?_
  show ab_E w (d + 1) mt_Str_length 9 [.ref (64 * j + 32)] [.int r1, .int (Int32.ofNat (ab_slen.getD j 0))] (I, L, ab_RR, n, nc, ns) res
  refine ab_ishr d_Str_length_9 ?_
  exact ab_iret (ty := .int) d_Str_length_10 rfl rfl h
theorem r_Reader_isWord_0 {w : ab_Wd} {d n nc ns : Nat} {I : Nat → Nat → Int32} {L : Nat → Nat → Int64} {res : ab_Re} (hT : w.1.stackTraces = false) {j : Nat} (hj : j < 8) (hc : nc ≤ res.2.2.2.2.2.1) (hs : ns ≤ res.2.2.2.2.2.2)
    (h : ((¬ (I kx_reader 4) = 1 → (res = (.inl (some (.int 0)), (I, L, ab_RR, n, nc, ns)))) ∧ ((I kx_reader 4) = 1 → (∃ (r2 : Int32), ab_C w d mt_Str_length [.ref (64 * j + 32)] (I, L, ab_RR, n, nc, ns) (.inl (some (.int r2)), (I, L, ab_RR, n, nc, ns)) ∧ ((((I kx_reader 3) - (I kx_reader 5)) = r2 → (ab_E w (d + 1) mt_Reader_isWord 28 [.ref kx_reader, .ref (64 * j + 32), .int 0] [] (I, L, ab_RR, n, nc, ns) res)) ∧ (¬ ((I kx_reader 3) - (I kx_reader 5)) = r2 → (res = (.inl (some (.int 0)), (I, L, ab_RR, n, nc, ns))))))))) : ab_E w (d + 1) mt_Reader_isWord 0 [.ref kx_reader, .ref (64 * j + 32), .null] [] (I, L, ab_RR, n, nc, ns) res := by
  refine ab_aload_n (i := 0) d_Reader_isWord_0 rfl rfl ?_
  refine ab_getI (ci := 4) (k := 4) d_Reader_isWord_1 v_771 rfl (by decide) (by decide) rfl ?_
  refine ab_iconst (v := 1) d_Reader_isWord_4 rfl ?_
  refine ab_icmp_ne (tgt := 24) d_Reader_isWord_5 (by decide) (fun c1 => ?_) (fun c1 => ?_)
  · have h := h.1 c1
    refine ab_iconst (v := 0) d_Reader_isWord_24 rfl ?_
    exact ab_iret (ty := .boolean) d_Reader_isWord_25 rfl rfl h
  · have h := h.2 c1
    refine ab_aload_n (i := 0) d_Reader_isWord_8 rfl rfl ?_
    refine ab_getI (ci := 4) (k := 3) d_Reader_isWord_9 v_770 rfl (by decide) (by decide) rfl ?_
    refine ab_aload_n (i := 0) d_Reader_isWord_12 rfl rfl ?_
    refine ab_getI (ci := 4) (k := 5) d_Reader_isWord_13 v_772 rfl (by decide) (by decide) rfl ?_
    refine ab_isub d_Reader_isWord_16 ?_
    refine ab_aload_n (i := 1) d_Reader_isWord_17 rfl rfl ?_
    obtain ⟨r2, hC, h⟩ := h
    refine ab_callT (me2 := mt_Str_length) (j := j) (as := []) (st := [.int ((I kx_reader 3) - (I kx_reader 5))]) (rv := (some (.int r2))) (M2 := (I, L, ab_RR, n, nc, ns)) d_Reader_isWord_18 hj ce_Str_length v_833 v_834 v_835 rfl (Nat.le_of_ble_eq_true rfl) hC (Nat.le_refl _) (Nat.le_refl _) hc hs (fun j h9 => by cases h9) (fun _ _ => rfl) ?_
    show ab_E w (d + 1) mt_Reader_isWord 21 [.ref kx_reader, .ref (64 * j + 32), .null] [.int r2, .int ((I kx_reader 3) - (I kx_reader 5))] (I, L, ab_RR, n, nc, ns) res
    refine ab_icmp_eq (tgt := 26) d_Reader_isWord_21 (by decide) (fun c3 => ?_) (fun c3 => ?_)
    · have h := h.1 c3
      refine ab_iconst (v := 0) d_Reader_isWord_26 rfl ?_
      refine ab_istore_n (i := 2) d_Reader_isWord_27 rfl (by decide) (Or.inr rfl) ?_
      exact h
    · have h := h.2 c3
      refine ab_iconst (v := 0) d_Reader_isWord_24 rfl ?_
      exact ab_iret (ty := .boolean) d_Reader_isWord_25 rfl rfl h
theorem r_Reader_isWord_28 {w : ab_Wd} {d n nc ns : Nat} {I : Nat → Nat → Int32} {L : Nat → Nat → Int64} {res : ab_Re} (hT : w.1.stackTraces = false) {j : Nat} (hj : j < 8) (v2 : Int32) (hc : nc ≤ res.2.2.2.2.2.1) (hs : ns ≤ res.2.2.2.2.2.2)
    (h : ∃ (r1 : Int32), ab_C w d mt_Str_length [.ref (64 * j + 32)] (I, L, ab_RR, n, nc, ns) (.inl (some (.int r1)), (I, L, ab_RR, n, nc, ns)) ∧ ((r1 ≤ v2 → (res = (.inl (some (.int 1)), (I, L, ab_RR, n, nc, ns)))) ∧ (¬ r1 ≤ v2 → ((vp_in ((I kx_reader 5) + v2) 700) ∧ ∃ (r4 : Int32), ab_C w d mt_Str_charAt [.ref (64 * j + 32), .int v2] (I, L, ab_RR, n, nc, ns) (.inl (some (.int r4)), (I, L, ab_RR, n, nc, ns)) ∧ (((I kx_tape ((I kx_reader 5) + v2).toNatClampNeg) = r4 → (ab_E w (d + 1) mt_Reader_isWord 28 [.ref kx_reader, .ref (64 * j + 32), .int (v2 + 1)] [] (I, L, ab_RR, n, nc, ns) res)) ∧ (¬ (I kx_tape ((I kx_reader 5) + v2).toNatClampNeg) = r4 → (res = (.inl (some (.int 0)), (I, L, ab_RR, n, nc, ns))))))))) : ab_E w (d + 1) mt_Reader_isWord 28 [.ref kx_reader, .ref (64 * j + 32), .int v2] [] (I, L, ab_RR, n, nc, ns) res := by
  refine ab_iload_n (i := 2) d_Reader_isWord_28 rfl rfl ?_
  refine ab_aload_n (i := 1) d_Reader_isWord_29 rfl rfl ?_
  obtain ⟨r1, hC, h⟩ := h
  refine ab_callT (me2 := mt_Str_length) (j := j) (as := []) (st := [.int v2]) (rv := (some (.int r1))) (M2 := (I, L, ab_RR, n, nc, ns)) d_Reader_isWord_30 hj ce_Str_length v_833 v_834 v_835 rfl (Nat.le_of_ble_eq_true rfl) hC (Nat.le_refl _) (Nat.le_refl _) hc hs (fun j h9 => by cases h9) (fun _ _ => rfl) ?_
  show ab_E w (d + 1) mt_Reader_isWord 33 [.ref kx_reader, .ref (64 * j + 32), .int v2] [.int r1, .int v2] (I, L, ab_RR, n, nc, ns) res
  refine ab_icmp_ge (tgt := 63) d_Reader_isWord_33 (by decide) (fun c2 => ?_) (fun c2 => ?_)
  · have h := h.1 c2
    refine ab_iconst (v := 1) d_Reader_isWord_63 rfl ?_
    exact ab_iret (ty := .boolean) d_Reader_isWord_64 rfl rfl h
  · have h := h.2 c2
    refine ab_aload_n (i := 0) d_Reader_isWord_36 rfl rfl ?_
    refine ab_getR (ci := 4) (k := 0) (j := kx_tape) d_Reader_isWord_37 v_767 rfl (by decide) (by decide) rfl r_kx_reader_0 ?_
    refine ab_aload_n (i := 0) d_Reader_isWord_40 rfl rfl ?_
    refine ab_getI (ci := 4) (k := 5) d_Reader_isWord_41 v_772 rfl (by decide) (by decide) rfl ?_
    refine ab_iload_n (i := 2) d_Reader_isWord_44 rfl rfl ?_
    refine ab_iadd d_Reader_isWord_45 ?_
    have g3 := h.1; have h := h.2
    refine ab_bald d_Reader_isWord_46 rfl rfl g3 ?_
    refine ab_aload_n (i := 1) d_Reader_isWord_47 rfl rfl ?_
    refine ab_iload_n (i := 2) d_Reader_isWord_48 rfl rfl ?_
    obtain ⟨r4, hC, h⟩ := h
    refine ab_callT (me2 := mt_Str_charAt) (j := j) (as := [.int v2]) (st := [.int (I kx_tape ((I kx_reader 5) + v2).toNatClampNeg)]) (rv := (some (.int r4))) (M2 := (I, L, ab_RR, n, nc, ns)) d_Reader_isWord_49 hj ce_Str_charAt v_843 v_844 v_845 rfl (Nat.le_of_ble_eq_true rfl) hC (Nat.le_refl _) (Nat.le_refl _) hc hs (fun j h9 => by cases h9) (fun _ _ => rfl) ?_
    show ab_E w (d + 1) mt_Reader_isWord 52 [.ref kx_reader, .ref (64 * j + 32), .int v2] [.int r4, .int (I kx_tape ((I kx_reader 5) + v2).toNatClampNeg)] (I, L, ab_RR, n, nc, ns) res
    refine ab_icmp_eq (tgt := 57) d_Reader_isWord_52 (by decide) (fun c5 => ?_) (fun c5 => ?_)
    · have h := h.1 c5
      refine ab_iinc (i := 2) (v := (v2 + 1)) d_Reader_isWord_57 rfl rfl (by decide) (Or.inr rfl) ?_
      refine ab_goto (tgt := 28) d_Reader_isWord_60 (by decide) ?_
      exact h
    · have h := h.2 c5
      refine ab_iconst (v := 0) d_Reader_isWord_55 rfl ?_
      exact ab_iret (ty := .boolean) d_Reader_isWord_56 rfl rfl h
theorem cx_Cables_isSound_1_0 {w : ab_Wd} {d n nc ns : Nat} {I : Nat → Nat → Int32} {L : Nat → Nat → Int64} (v1 : Int32) (hT : w.1.stackTraces = false) (e1 : ¬ (((I kx_trial 2) >>> (v1 &&& 31)) &&& 1) = 1) : ab_C w d mt_Cables_isSound [.ref kx_trial, .int v1] (I, L, ab_RR, n, nc, ns) (.inl (some (.int 0)), (I, L, ab_RR, n, nc, ns)) := by
  refine ab_C_of (by decide) rfl (Nat.le_of_ble_eq_true rfl) hT ?_
  have hc := Nat.le_refl nc
  have hs := Nat.le_refl ns
  refine ab_aload_n (i := 0) d_Cables_isSound_0 rfl rfl ?_
  refine ab_getI (ci := 1) (k := 2) d_Cables_isSound_1 v_200 rfl (by decide) (by decide) rfl ?_
  refine ab_iload_n (i := 1) d_Cables_isSound_4 rfl rfl ?_
  refine ab_ishr d_Cables_isSound_5 ?_
  refine ab_iconst (v := 1) d_Cables_isSound_6 rfl ?_
  refine ab_iand d_Cables_isSound_7 ?_
  refine ab_iconst (v := 1) d_Cables_isSound_8 rfl ?_
  refine ab_icmp_ne (tgt := 16) d_Cables_isSound_9 (by decide) (fun _ => ?_) (fun c9 => absurd c9 e1)
  refine ab_iconst (v := 0) d_Cables_isSound_16 rfl ?_
  exact ab_iret (ty := .boolean) d_Cables_isSound_17 rfl rfl rfl
theorem cx_Cables_isSound_1_1 {w : ab_Wd} {d n nc ns : Nat} {I : Nat → Nat → Int32} {L : Nat → Nat → Int64} (v1 : Int32) (hT : w.1.stackTraces = false) (e1 : (((I kx_trial 2) >>> (v1 &&& 31)) &&& 1) = 1) : ab_C w d mt_Cables_isSound [.ref kx_trial, .int v1] (I, L, ab_RR, n, nc, ns) (.inl (some (.int 1)), (I, L, ab_RR, n, nc, ns)) := by
  refine ab_C_of (by decide) rfl (Nat.le_of_ble_eq_true rfl) hT ?_
  have hc := Nat.le_refl nc
  have hs := Nat.le_refl ns
  refine ab_aload_n (i := 0) d_Cables_isSound_0 rfl rfl ?_
  refine ab_getI (ci := 1) (k := 2) d_Cables_isSound_1 v_200 rfl (by decide) (by decide) rfl ?_
  refine ab_iload_n (i := 1) d_Cables_isSound_4 rfl rfl ?_
  refine ab_ishr d_Cables_isSound_5 ?_
  refine ab_iconst (v := 1) d_Cables_isSound_6 rfl ?_
  refine ab_iand d_Cables_isSound_7 ?_
  refine ab_iconst (v := 1) d_Cables_isSound_8 rfl ?_
  refine ab_icmp_ne (tgt := 16) d_Cables_isSound_9 (by decide) (fun c9 => absurd e1 c9) (fun _ => ?_)
  refine ab_iconst (v := 1) d_Cables_isSound_12 rfl ?_
  refine ab_goto (tgt := 17) d_Cables_isSound_13 (by decide) ?_
  exact ab_iret (ty := .boolean) d_Cables_isSound_17 rfl rfl rfl
theorem r_Reader_readBroken_0 {w : ab_Wd} {d n nc ns : Nat} {I : Nat → Nat → Int32} {L : Nat → Nat → Int64} {res : ab_Re} (hT : w.1.stackTraces = false)  (hc : nc ≤ res.2.2.2.2.2.1) (hs : ns ≤ res.2.2.2.2.2.2)
    (h : ∃ (I2 : Nat → Nat → Int32), ab_C w d mt_Reader_toNext [.ref kx_reader] (I, L, ab_RR, n, nc, ns) (.inl none, (I2, L, ab_RR, n, nc, ns)) ∧ ∃ (r3 : Int32) (I4 : Nat → Nat → Int32), ab_C w d mt_Reader_readNumber [.ref kx_reader, .int 0, .int 23] (I2, L, ab_RR, n, nc, ns) (.inl (some (.int r3)), (I4, L, ab_RR, n, nc, ns)) ∧ ((r3 < (I4 kx_trial 1) → (((((I4 kx_trial 2) >>> (r3 &&& 31)) &&& 1) = 1 → ((¬ (I4 kx_reader 7) = 0 → (∃ (I10 : Nat → Nat → Int32), ab_C w d mt_Reader_toNext [.ref kx_reader] (I4, L, ab_RR, n, nc, ns) (.inl none, (I10, L, ab_RR, n, nc, ns)) ∧ res = (.inl none, (I10, L, ab_RR, n, nc, ns)))) ∧ ((I4 kx_reader 7) = 0 → (∃ (I12 : Nat → Nat → Int32), ab_C w d mt_Reader_toNext [.ref kx_reader] ((ab_up I4 kx_trial 2 ((I4 kx_trial 2) &&& (((1 : Int32) <<< (r3 &&& 31)) ^^^ (-1)))), L, ab_RR, n, nc, ns) (.inl none, (I12, L, ab_RR, n, nc, ns)) ∧ res = (.inl none, (I12, L, ab_RR, n, nc, ns)))))) ∧ (¬ (((I4 kx_trial 2) >>> (r3 &&& 31)) &&& 1) = 1 → (((I4 kx_reader 7) = 0 → (∃ (I17 : Nat → Nat → Int32), ab_C w d mt_Reader_toNext [.ref kx_reader] ((ab_up (ab_up I4 kx_reader 7 4) kx_reader 8 (I4 kx_reader 5)), L, ab_RR, n, nc, ns) (.inl none, (I17, L, ab_RR, n, nc, ns)) ∧ res = (.inl none, (I17, L, ab_RR, n, nc, ns)))) ∧ (¬ (I4 kx_reader 7) = 0 → ((¬ (I4 kx_reader 7) = 0 → (∃ (I20 : Nat → Nat → Int32), ab_C w d mt_Reader_toNext [.ref kx_reader] (I4, L, ab_RR, n, nc, ns) (.inl none, (I20, L, ab_RR, n, nc, ns)) ∧ res = (.inl none, (I20, L, ab_RR, n, nc, ns)))) ∧ ((I4 kx_reader 7) = 0 → (∃ (I22 : Nat → Nat → Int32), ab_C w d mt_Reader_toNext [.ref kx_reader] ((ab_up I4 kx_trial 2 ((I4 kx_trial 2) &&& (((1 : Int32) <<< (r3 &&& 31)) ^^^ (-1)))), L, ab_RR, n, nc, ns) (.inl none, (I22, L, ab_RR, n, nc, ns)) ∧ res = (.inl none, (I22, L, ab_RR, n, nc, ns)))))))))) ∧ (¬ r3 < (I4 kx_trial 1) → (((I4 kx_reader 7) = 0 → (∃ (I27 : Nat → Nat → Int32), ab_C w d mt_Reader_toNext [.ref kx_reader] ((ab_up (ab_up I4 kx_reader 7 3) kx_reader 8 (I4 kx_reader 5)), L, ab_RR, n, nc, ns) (.inl none, (I27, L, ab_RR, n, nc, ns)) ∧ res = (.inl none, (I27, L, ab_RR, n, nc, ns)))) ∧ (¬ (I4 kx_reader 7) = 0 → ((¬ (I4 kx_reader 7) = 0 → (∃ (I30 : Nat → Nat → Int32), ab_C w d mt_Reader_toNext [.ref kx_reader] (I4, L, ab_RR, n, nc, ns) (.inl none, (I30, L, ab_RR, n, nc, ns)) ∧ res = (.inl none, (I30, L, ab_RR, n, nc, ns)))) ∧ ((I4 kx_reader 7) = 0 → (∃ (I32 : Nat → Nat → Int32), ab_C w d mt_Reader_toNext [.ref kx_reader] ((ab_up I4 kx_trial 2 ((I4 kx_trial 2) &&& (((1 : Int32) <<< (r3 &&& 31)) ^^^ (-1)))), L, ab_RR, n, nc, ns) (.inl none, (I32, L, ab_RR, n, nc, ns)) ∧ res = (.inl none, (I32, L, ab_RR, n, nc, ns)))))))))) : ab_E w (d + 1) mt_Reader_readBroken 0 [.ref kx_reader, .null] [] (I, L, ab_RR, n, nc, ns) res := by
  refine ab_aload_n (i := 0) d_Reader_readBroken_0 rfl rfl ?_
  obtain ⟨I2, hC, h⟩ := h
  refine ab_callV (me2 := mt_Reader_toNext) (b := kx_reader) (as := []) (st := []) (rv := none) (M2 := (I2, L, ab_RR, n, nc, ns)) d_Reader_readBroken_1 ce_Reader_toNext v_804 v_806 v_14 (by decide) rfl (Nat.le_of_ble_eq_true rfl) hC (Nat.le_refl _) (Nat.le_refl _) hc hs (fun j h9 => by cases h9) (fun _ _ => rfl) ?_
  show ab_E w (d + 1) mt_Reader_readBroken 4 [.ref kx_reader, .null] [] (I2, L, ab_RR, n, nc, ns) res
  refine ab_aload_n (i := 0) d_Reader_readBroken_4 rfl rfl ?_
  refine ab_iconst (v := 0) d_Reader_readBroken_5 rfl ?_
  refine ab_bipush (v := 23) d_Reader_readBroken_6 rfl ?_
  obtain ⟨r3, I4, hC, h⟩ := h
  refine ab_callV (me2 := mt_Reader_readNumber) (b := kx_reader) (as := [.int 0, .int 23]) (st := []) (rv := (some (.int r3))) (M2 := (I4, L, ab_RR, n, nc, ns)) d_Reader_readBroken_8 ce_Reader_readNumber v_889 v_891 v_23 (by decide) rfl (Nat.le_of_ble_eq_true rfl) hC (Nat.le_refl _) (Nat.le_refl _) hc hs (fun j h9 => by cases h9) (fun _ _ => rfl) ?_
  show ab_E w (d + 1) mt_Reader_readBroken 11 [.ref kx_reader, .null] [.int r3] (I4, L, ab_RR, n, nc, ns) res
  refine ab_istore_n (i := 1) d_Reader_readBroken_11 rfl (by decide) (Or.inr rfl) ?_
  refine ab_iload_n (i := 1) d_Reader_readBroken_12 rfl rfl ?_
  refine ab_aload_n (i := 0) d_Reader_readBroken_13 rfl rfl ?_
  refine ab_getR (ci := 4) (k := 2) (j := kx_trial) d_Reader_readBroken_14 v_769 rfl (by decide) (by decide) rfl r_kx_reader_2 ?_
  refine ab_getI (ci := 1) (k := 1) d_Reader_readBroken_17 v_198 rfl (by decide) (by decide) rfl ?_
  refine ab_icmp_lt (tgt := 31) d_Reader_readBroken_20 (by decide) (fun c5 => ?_) (fun c5 => ?_)
  · have h := h.1 c5
    refine ab_aload_n (i := 0) d_Reader_readBroken_31 rfl rfl ?_
    refine ab_getR (ci := 4) (k := 2) (j := kx_trial) d_Reader_readBroken_32 v_769 rfl (by decide) (by decide) rfl r_kx_reader_2 ?_
    refine ab_iload_n (i := 1) d_Reader_readBroken_35 rfl rfl ?_
    by_cases c7 : (((I4 kx_trial 2) >>> (r3 &&& 31)) &&& 1) = 1
    · have h := h.1 c7
      refine ab_callV (me2 := mt_Cables_isSound) (b := kx_trial) (as := [.int r3]) (st := []) (rv := (some (.int 1))) (M2 := (I4, L, ab_RR, n, nc, ns)) d_Reader_readBroken_36 ce_Cables_isSound v_908 v_540 v_541 (by decide) rfl (Nat.le_of_ble_eq_true rfl) (cx_Cables_isSound_1_1 r3 hT c7) (Nat.le_refl _) (Nat.le_refl _) hc hs (fun j h9 => by cases h9) (fun _ _ => rfl) ?_
      show ab_E w (d + 1) mt_Reader_readBroken 39 [.ref kx_reader, .int r3] [.int 1] (I4, L, ab_RR, n, nc, ns) res
      refine ab_if_ne (tgt := 47) d_Reader_readBroken_39 (by decide) (fun _ => ?_) (fun c9 => absurd c9 (show ¬ (1 : Int32) = 0 from by decide))
      refine ab_aload_n (i := 0) d_Reader_readBroken_47 rfl rfl ?_
      refine ab_getI (ci := 4) (k := 7) d_Reader_readBroken_48 v_774 rfl (by decide) (by decide) rfl ?_
      refine ab_if_ne (tgt := 71) d_Reader_readBroken_51 (by decide) (fun c8 => ?_) (fun c8 => ?_)
      · have h := h.1 c8
        refine ab_aload_n (i := 0) d_Reader_readBroken_71 rfl rfl ?_
        obtain ⟨I10, hC, h⟩ := h
        refine ab_callV (me2 := mt_Reader_toNext) (b := kx_reader) (as := []) (st := []) (rv := none) (M2 := (I10, L, ab_RR, n, nc, ns)) d_Reader_readBroken_72 ce_Reader_toNext v_804 v_806 v_14 (by decide) rfl (Nat.le_of_ble_eq_true rfl) hC (Nat.le_refl _) (Nat.le_refl _) hc hs (fun j h9 => by cases h9) (fun _ _ => rfl) ?_
        show ab_E w (d + 1) mt_Reader_readBroken 75 [.ref kx_reader, .int r3] [] (I10, L, ab_RR, n, nc, ns) res
        exact ab_vret d_Reader_readBroken_75 rfl h
      · have h := h.2 c8
        refine ab_aload_n (i := 0) d_Reader_readBroken_54 rfl rfl ?_
        refine ab_getR (ci := 4) (k := 2) (j := kx_trial) d_Reader_readBroken_55 v_769 rfl (by decide) (by decide) rfl r_kx_reader_2 ?_
        refine ab_dupr d_Reader_readBroken_58 ?_
        refine ab_getI (ci := 1) (k := 2) d_Reader_readBroken_59 v_203 rfl (by decide) (by decide) rfl ?_
        refine ab_iconst (v := 1) d_Reader_readBroken_62 rfl ?_
        refine ab_iload_n (i := 1) d_Reader_readBroken_63 rfl rfl ?_
        refine ab_ishl d_Reader_readBroken_64 ?_
        refine ab_iconst (v := (-1)) d_Reader_readBroken_65 rfl ?_
        refine ab_ixor d_Reader_readBroken_66 ?_
        refine ab_iand d_Reader_readBroken_67 ?_
        refine ab_putI (ci := 1) (k := 2) d_Reader_readBroken_68 v_203 rfl (by decide) (by decide) rfl (Or.inl rfl) rfl rfl ?_
        refine ab_aload_n (i := 0) d_Reader_readBroken_71 rfl rfl ?_
        obtain ⟨I12, hC, h⟩ := h
        refine ab_callV (me2 := mt_Reader_toNext) (b := kx_reader) (as := []) (st := []) (rv := none) (M2 := (I12, L, ab_RR, n, nc, ns)) d_Reader_readBroken_72 ce_Reader_toNext v_804 v_806 v_14 (by decide) rfl (Nat.le_of_ble_eq_true rfl) hC (Nat.le_refl _) (Nat.le_refl _) hc hs (fun j h9 => by cases h9) (fun _ _ => rfl) ?_
        show ab_E w (d + 1) mt_Reader_readBroken 75 [.ref kx_reader, .int r3] [] (I12, L, ab_RR, n, nc, ns) res
        exact ab_vret d_Reader_readBroken_75 rfl h
    · have h := h.2 c7
      refine ab_callV (me2 := mt_Cables_isSound) (b := kx_trial) (as := [.int r3]) (st := []) (rv := (some (.int 0))) (M2 := (I4, L, ab_RR, n, nc, ns)) d_Reader_readBroken_36 ce_Cables_isSound v_908 v_540 v_541 (by decide) rfl (Nat.le_of_ble_eq_true rfl) (cx_Cables_isSound_1_0 r3 hT c7) (Nat.le_refl _) (Nat.le_refl _) hc hs (fun j h9 => by cases h9) (fun _ _ => rfl) ?_
      show ab_E w (d + 1) mt_Reader_readBroken 39 [.ref kx_reader, .int r3] [.int 0] (I4, L, ab_RR, n, nc, ns) res
      refine ab_if_ne (tgt := 47) d_Reader_readBroken_39 (by decide) (fun c9 => absurd (show (0 : Int32) = 0 from by decide) c9) (fun _ => ?_)
      refine ab_aload_n (i := 0) d_Reader_readBroken_42 rfl rfl ?_
      refine ab_iconst (v := 4) d_Reader_readBroken_43 rfl ?_
      by_cases c15 : (I4 kx_reader 7) = 0
      · have h := h.1 c15
        refine ab_callV (me2 := mt_Reader_fail) (b := kx_reader) (as := [.int 4]) (st := []) (rv := none) (M2 := ((ab_up (ab_up I4 kx_reader 7 4) kx_reader 8 (I4 kx_reader 5)), L, ab_RR, n, nc, ns)) d_Reader_readBroken_44 ce_Reader_fail v_885 v_887 v_22 (by decide) rfl (Nat.le_of_ble_eq_true rfl) (cx_Reader_fail_1 4 hT c15) (Nat.le_refl _) (Nat.le_refl _) hc hs (fun j h9 => by cases h9) (fun _ _ => rfl) ?_
        show ab_E w (d + 1) mt_Reader_readBroken 47 [.ref kx_reader, .int r3] [] ((ab_up (ab_up I4 kx_reader 7 4) kx_reader 8 (I4 kx_reader 5)), L, ab_RR, n, nc, ns) res
        refine ab_aload_n (i := 0) d_Reader_readBroken_47 rfl rfl ?_
        refine ab_getI (ci := 4) (k := 7) d_Reader_readBroken_48 v_774 rfl (by decide) (by decide) rfl ?_
        refine ab_if_ne (tgt := 71) d_Reader_readBroken_51 (by decide) (fun _ => ?_) (fun c9 => absurd c9 (show ¬ (4 : Int32) = 0 from by decide))
        refine ab_aload_n (i := 0) d_Reader_readBroken_71 rfl rfl ?_
        obtain ⟨I17, hC, h⟩ := h
        refine ab_callV (me2 := mt_Reader_toNext) (b := kx_reader) (as := []) (st := []) (rv := none) (M2 := (I17, L, ab_RR, n, nc, ns)) d_Reader_readBroken_72 ce_Reader_toNext v_804 v_806 v_14 (by decide) rfl (Nat.le_of_ble_eq_true rfl) hC (Nat.le_refl _) (Nat.le_refl _) hc hs (fun j h9 => by cases h9) (fun _ _ => rfl) ?_
        show ab_E w (d + 1) mt_Reader_readBroken 75 [.ref kx_reader, .int r3] [] (I17, L, ab_RR, n, nc, ns) res
        exact ab_vret d_Reader_readBroken_75 rfl h
      · have h := h.2 c15
        refine ab_callV (me2 := mt_Reader_fail) (b := kx_reader) (as := [.int 4]) (st := []) (rv := none) (M2 := (I4, L, ab_RR, n, nc, ns)) d_Reader_readBroken_44 ce_Reader_fail v_885 v_887 v_22 (by decide) rfl (Nat.le_of_ble_eq_true rfl) (cx_Reader_fail_0 4 hT c15) (Nat.le_refl _) (Nat.le_refl _) hc hs (fun j h9 => by cases h9) (fun _ _ => rfl) ?_
        show ab_E w (d + 1) mt_Reader_readBroken 47 [.ref kx_reader, .int r3] [] (I4, L, ab_RR, n, nc, ns) res
        refine ab_aload_n (i := 0) d_Reader_readBroken_47 rfl rfl ?_
        refine ab_getI (ci := 4) (k := 7) d_Reader_readBroken_48 v_774 rfl (by decide) (by decide) rfl ?_
        refine ab_if_ne (tgt := 71) d_Reader_readBroken_51 (by decide) (fun c18 => ?_) (fun c18 => ?_)
        · have h := h.1 c18
          refine ab_aload_n (i := 0) d_Reader_readBroken_71 rfl rfl ?_
          obtain ⟨I20, hC, h⟩ := h
          refine ab_callV (me2 := mt_Reader_toNext) (b := kx_reader) (as := []) (st := []) (rv := none) (M2 := (I20, L, ab_RR, n, nc, ns)) d_Reader_readBroken_72 ce_Reader_toNext v_804 v_806 v_14 (by decide) rfl (Nat.le_of_ble_eq_true rfl) hC (Nat.le_refl _) (Nat.le_refl _) hc hs (fun j h9 => by cases h9) (fun _ _ => rfl) ?_
          show ab_E w (d + 1) mt_Reader_readBroken 75 [.ref kx_reader, .int r3] [] (I20, L, ab_RR, n, nc, ns) res
          exact ab_vret d_Reader_readBroken_75 rfl h
        · have h := h.2 c18
          refine ab_aload_n (i := 0) d_Reader_readBroken_54 rfl rfl ?_
          refine ab_getR (ci := 4) (k := 2) (j := kx_trial) d_Reader_readBroken_55 v_769 rfl (by decide) (by decide) rfl r_kx_reader_2 ?_
          refine ab_dupr d_Reader_readBroken_58 ?_
          refine ab_getI (ci := 1) (k := 2) d_Reader_readBroken_59 v_203 rfl (by decide) (by decide) rfl ?_
          refine ab_iconst (v := 1) d_Reader_readBroken_62 rfl ?_
          refine ab_iload_n (i := 1) d_Reader_readBroken_63 rfl rfl ?_
          refine ab_ishl d_Reader_readBroken_64 ?_
          refine ab_iconst (v := (-1)) d_Reader_readBroken_65 rfl ?_
          refine ab_ixor d_Reader_readBroken_66 ?_
          refine ab_iand d_Reader_readBroken_67 ?_
          refine ab_putI (ci := 1) (k := 2) d_Reader_readBroken_68 v_203 rfl (by decide) (by decide) rfl (Or.inl rfl) rfl rfl ?_
          refine ab_aload_n (i := 0) d_Reader_readBroken_71 rfl rfl ?_
          obtain ⟨I22, hC, h⟩ := h
          refine ab_callV (me2 := mt_Reader_toNext) (b := kx_reader) (as := []) (st := []) (rv := none) (M2 := (I22, L, ab_RR, n, nc, ns)) d_Reader_readBroken_72 ce_Reader_toNext v_804 v_806 v_14 (by decide) rfl (Nat.le_of_ble_eq_true rfl) hC (Nat.le_refl _) (Nat.le_refl _) hc hs (fun j h9 => by cases h9) (fun _ _ => rfl) ?_
          show ab_E w (d + 1) mt_Reader_readBroken 75 [.ref kx_reader, .int r3] [] (I22, L, ab_RR, n, nc, ns) res
          exact ab_vret d_Reader_readBroken_75 rfl h
  · have h := h.2 c5
    refine ab_aload_n (i := 0) d_Reader_readBroken_23 rfl rfl ?_
    refine ab_iconst (v := 3) d_Reader_readBroken_24 rfl ?_
    by_cases c25 : (I4 kx_reader 7) = 0
    · have h := h.1 c25
      refine ab_callV (me2 := mt_Reader_fail) (b := kx_reader) (as := [.int 3]) (st := []) (rv := none) (M2 := ((ab_up (ab_up I4 kx_reader 7 3) kx_reader 8 (I4 kx_reader 5)), L, ab_RR, n, nc, ns)) d_Reader_readBroken_25 ce_Reader_fail v_885 v_887 v_22 (by decide) rfl (Nat.le_of_ble_eq_true rfl) (cx_Reader_fail_1 3 hT c25) (Nat.le_refl _) (Nat.le_refl _) hc hs (fun j h9 => by cases h9) (fun _ _ => rfl) ?_
      show ab_E w (d + 1) mt_Reader_readBroken 28 [.ref kx_reader, .int r3] [] ((ab_up (ab_up I4 kx_reader 7 3) kx_reader 8 (I4 kx_reader 5)), L, ab_RR, n, nc, ns) res
      refine ab_goto (tgt := 47) d_Reader_readBroken_28 (by decide) ?_
      refine ab_aload_n (i := 0) d_Reader_readBroken_47 rfl rfl ?_
      refine ab_getI (ci := 4) (k := 7) d_Reader_readBroken_48 v_774 rfl (by decide) (by decide) rfl ?_
      refine ab_if_ne (tgt := 71) d_Reader_readBroken_51 (by decide) (fun _ => ?_) (fun c9 => absurd c9 (show ¬ (3 : Int32) = 0 from by decide))
      refine ab_aload_n (i := 0) d_Reader_readBroken_71 rfl rfl ?_
      obtain ⟨I27, hC, h⟩ := h
      refine ab_callV (me2 := mt_Reader_toNext) (b := kx_reader) (as := []) (st := []) (rv := none) (M2 := (I27, L, ab_RR, n, nc, ns)) d_Reader_readBroken_72 ce_Reader_toNext v_804 v_806 v_14 (by decide) rfl (Nat.le_of_ble_eq_true rfl) hC (Nat.le_refl _) (Nat.le_refl _) hc hs (fun j h9 => by cases h9) (fun _ _ => rfl) ?_
      show ab_E w (d + 1) mt_Reader_readBroken 75 [.ref kx_reader, .int r3] [] (I27, L, ab_RR, n, nc, ns) res
      exact ab_vret d_Reader_readBroken_75 rfl h
    · have h := h.2 c25
      refine ab_callV (me2 := mt_Reader_fail) (b := kx_reader) (as := [.int 3]) (st := []) (rv := none) (M2 := (I4, L, ab_RR, n, nc, ns)) d_Reader_readBroken_25 ce_Reader_fail v_885 v_887 v_22 (by decide) rfl (Nat.le_of_ble_eq_true rfl) (cx_Reader_fail_0 3 hT c25) (Nat.le_refl _) (Nat.le_refl _) hc hs (fun j h9 => by cases h9) (fun _ _ => rfl) ?_
      show ab_E w (d + 1) mt_Reader_readBroken 28 [.ref kx_reader, .int r3] [] (I4, L, ab_RR, n, nc, ns) res
      refine ab_goto (tgt := 47) d_Reader_readBroken_28 (by decide) ?_
      refine ab_aload_n (i := 0) d_Reader_readBroken_47 rfl rfl ?_
      refine ab_getI (ci := 4) (k := 7) d_Reader_readBroken_48 v_774 rfl (by decide) (by decide) rfl ?_
      refine ab_if_ne (tgt := 71) d_Reader_readBroken_51 (by decide) (fun c28 => ?_) (fun c28 => ?_)
      · have h := h.1 c28
        refine ab_aload_n (i := 0) d_Reader_readBroken_71 rfl rfl ?_
        obtain ⟨I30, hC, h⟩ := h
        refine ab_callV (me2 := mt_Reader_toNext) (b := kx_reader) (as := []) (st := []) (rv := none) (M2 := (I30, L, ab_RR, n, nc, ns)) d_Reader_readBroken_72 ce_Reader_toNext v_804 v_806 v_14 (by decide) rfl (Nat.le_of_ble_eq_true rfl) hC (Nat.le_refl _) (Nat.le_refl _) hc hs (fun j h9 => by cases h9) (fun _ _ => rfl) ?_
        show ab_E w (d + 1) mt_Reader_readBroken 75 [.ref kx_reader, .int r3] [] (I30, L, ab_RR, n, nc, ns) res
        exact ab_vret d_Reader_readBroken_75 rfl h
      · have h := h.2 c28
        refine ab_aload_n (i := 0) d_Reader_readBroken_54 rfl rfl ?_
        refine ab_getR (ci := 4) (k := 2) (j := kx_trial) d_Reader_readBroken_55 v_769 rfl (by decide) (by decide) rfl r_kx_reader_2 ?_
        refine ab_dupr d_Reader_readBroken_58 ?_
        refine ab_getI (ci := 1) (k := 2) d_Reader_readBroken_59 v_203 rfl (by decide) (by decide) rfl ?_
        refine ab_iconst (v := 1) d_Reader_readBroken_62 rfl ?_
        refine ab_iload_n (i := 1) d_Reader_readBroken_63 rfl rfl ?_
        refine ab_ishl d_Reader_readBroken_64 ?_
        refine ab_iconst (v := (-1)) d_Reader_readBroken_65 rfl ?_
        refine ab_ixor d_Reader_readBroken_66 ?_
        refine ab_iand d_Reader_readBroken_67 ?_
        refine ab_putI (ci := 1) (k := 2) d_Reader_readBroken_68 v_203 rfl (by decide) (by decide) rfl (Or.inl rfl) rfl rfl ?_
        refine ab_aload_n (i := 0) d_Reader_readBroken_71 rfl rfl ?_
        obtain ⟨I32, hC, h⟩ := h
        refine ab_callV (me2 := mt_Reader_toNext) (b := kx_reader) (as := []) (st := []) (rv := none) (M2 := (I32, L, ab_RR, n, nc, ns)) d_Reader_readBroken_72 ce_Reader_toNext v_804 v_806 v_14 (by decide) rfl (Nat.le_of_ble_eq_true rfl) hC (Nat.le_refl _) (Nat.le_refl _) hc hs (fun j h9 => by cases h9) (fun _ _ => rfl) ?_
        show ab_E w (d + 1) mt_Reader_readBroken 75 [.ref kx_reader, .int r3] [] (I32, L, ab_RR, n, nc, ns) res
        exact ab_vret d_Reader_readBroken_75 rfl h
theorem cx_Cables_add_1_0 {w : ab_Wd} {d n nc ns : Nat} {I : Nat → Nat → Int32} {L : Nat → Nat → Int64} (v1 : Int32) (v2 : Int32) (v3 : Int32) (v4 : Int32) (hT : w.1.stackTraces = false) (e1 : (I kx_trial 1) < 24) (e2 : (vp_in (I kx_trial 1) 24)) (e3 : (vp_in (I kx_trial 1) 24)) (e4 : (vp_in (I kx_trial 1) 24)) (e5 : (vp_in (I kx_trial 1) 24)) : ab_C w d mt_Cables_add [.ref kx_trial, .int v1, .int v2, .int v3, .int v4] (I, L, ab_RR, n, nc, ns) (.inl (some (.int (((I kx_trial 1) + 1) - 1))), ((ab_up (ab_up (ab_up (ab_up (ab_up (ab_up I kx_trial_first (I kx_trial 1).toNatClampNeg v1) kx_trial_second (I kx_trial 1).toNatClampNeg v2) kx_trial_price (I kx_trial 1).toNatClampNeg v3) kx_trial_firm (I kx_trial 1).toNatClampNeg v4) kx_trial 2 ((I kx_trial 2) ||| ((1 : Int32) <<< ((I kx_trial 1) &&& 31)))) kx_trial 1 ((I kx_trial 1) + 1)), L, ab_RR, n, nc, ns)) := by
  refine ab_C_of (by decide) rfl (Nat.le_of_ble_eq_true rfl) hT ?_
  have hc := Nat.le_refl nc
  have hs := Nat.le_refl ns
  refine ab_aload_n (i := 0) d_Cables_add_0 rfl rfl ?_
  refine ab_getI (ci := 1) (k := 1) d_Cables_add_1 v_192 rfl (by decide) (by decide) rfl ?_
  refine ab_bipush (v := 24) d_Cables_add_4 rfl ?_
  refine ab_icmp_lt (tgt := 11) d_Cables_add_6 (by decide) (fun _ => ?_) (fun c9 => absurd e1 c9)
  refine ab_aload_n (i := 0) d_Cables_add_11 rfl rfl ?_
  refine ab_getR (ci := 1) (k := 3) (j := kx_trial_first) d_Cables_add_12 v_204 rfl (by decide) (by decide) rfl r_kx_trial_3 ?_
  refine ab_aload_n (i := 0) d_Cables_add_15 rfl rfl ?_
  refine ab_getI (ci := 1) (k := 1) d_Cables_add_16 v_192 rfl (by decide) (by decide) rfl ?_
  refine ab_iload_n (i := 1) d_Cables_add_19 rfl rfl ?_
  refine ab_iast d_Cables_add_20 rfl rfl e2 ?_
  refine ab_aload_n (i := 0) d_Cables_add_21 rfl rfl ?_
  refine ab_getR (ci := 1) (k := 4) (j := kx_trial_second) d_Cables_add_22 v_211 rfl (by decide) (by decide) rfl r_kx_trial_4 ?_
  refine ab_aload_n (i := 0) d_Cables_add_25 rfl rfl ?_
  refine ab_getI (ci := 1) (k := 1) d_Cables_add_26 v_192 rfl (by decide) (by decide) rfl ?_
  refine ab_iload_n (i := 2) d_Cables_add_29 rfl rfl ?_
  refine ab_iast d_Cables_add_30 rfl rfl e3 ?_
  refine ab_aload_n (i := 0) d_Cables_add_31 rfl rfl ?_
  refine ab_getR (ci := 1) (k := 5) (j := kx_trial_price) d_Cables_add_32 v_218 rfl (by decide) (by decide) rfl r_kx_trial_5 ?_
  refine ab_aload_n (i := 0) d_Cables_add_35 rfl rfl ?_
  refine ab_getI (ci := 1) (k := 1) d_Cables_add_36 v_192 rfl (by decide) (by decide) rfl ?_
  refine ab_iload_n (i := 3) d_Cables_add_39 rfl rfl ?_
  refine ab_iast d_Cables_add_40 rfl rfl e4 ?_
  refine ab_aload_n (i := 0) d_Cables_add_41 rfl rfl ?_
  refine ab_getR (ci := 1) (k := 6) (j := kx_trial_firm) d_Cables_add_42 v_226 rfl (by decide) (by decide) rfl r_kx_trial_6 ?_
  refine ab_aload_n (i := 0) d_Cables_add_45 rfl rfl ?_
  refine ab_getI (ci := 1) (k := 1) d_Cables_add_46 v_192 rfl (by decide) (by decide) rfl ?_
  refine ab_iload (i := 4) d_Cables_add_49 rfl ?_
  refine ab_iast d_Cables_add_51 rfl rfl e5 ?_
  refine ab_aload_n (i := 0) d_Cables_add_52 rfl rfl ?_
  refine ab_dupr d_Cables_add_53 ?_
  refine ab_getI (ci := 1) (k := 2) d_Cables_add_54 v_200 rfl (by decide) (by decide) rfl ?_
  refine ab_iconst (v := 1) d_Cables_add_57 rfl ?_
  refine ab_aload_n (i := 0) d_Cables_add_58 rfl rfl ?_
  refine ab_getI (ci := 1) (k := 1) d_Cables_add_59 v_192 rfl (by decide) (by decide) rfl ?_
  refine ab_ishl d_Cables_add_62 ?_
  refine ab_ior d_Cables_add_63 ?_
  refine ab_putI (ci := 1) (k := 2) d_Cables_add_64 v_200 rfl (by decide) (by decide) rfl (Or.inl rfl) rfl rfl ?_
  refine ab_aload_n (i := 0) d_Cables_add_67 rfl rfl ?_
  refine ab_dupr d_Cables_add_68 ?_
  refine ab_getI (ci := 1) (k := 1) d_Cables_add_69 v_192 rfl (by decide) (by decide) rfl ?_
  refine ab_iconst (v := 1) d_Cables_add_72 rfl ?_
  refine ab_iadd d_Cables_add_73 ?_
  refine ab_putI (ci := 1) (k := 1) d_Cables_add_74 v_192 rfl (by decide) (by decide) rfl (Or.inl rfl) rfl rfl ?_
  refine ab_aload_n (i := 0) d_Cables_add_77 rfl rfl ?_
  refine ab_getI (ci := 1) (k := 1) d_Cables_add_78 v_192 rfl (by decide) (by decide) rfl ?_
  refine ab_iconst (v := 1) d_Cables_add_81 rfl ?_
  refine ab_isub d_Cables_add_82 ?_
  exact ab_iret (ty := .int) d_Cables_add_83 rfl rfl rfl
theorem cx_Cables_add_1_1 {w : ab_Wd} {d n nc ns : Nat} {I : Nat → Nat → Int32} {L : Nat → Nat → Int64} (v1 : Int32) (v2 : Int32) (v3 : Int32) (v4 : Int32) (hT : w.1.stackTraces = false) (e1 : ¬ (I kx_trial 1) < 24) : ab_C w d mt_Cables_add [.ref kx_trial, .int v1, .int v2, .int v3, .int v4] (I, L, ab_RR, n, nc, ns) (.inl (some (.int (-1))), (I, L, ab_RR, n, nc, ns)) := by
  refine ab_C_of (by decide) rfl (Nat.le_of_ble_eq_true rfl) hT ?_
  have hc := Nat.le_refl nc
  have hs := Nat.le_refl ns
  refine ab_aload_n (i := 0) d_Cables_add_0 rfl rfl ?_
  refine ab_getI (ci := 1) (k := 1) d_Cables_add_1 v_192 rfl (by decide) (by decide) rfl ?_
  refine ab_bipush (v := 24) d_Cables_add_4 rfl ?_
  refine ab_icmp_lt (tgt := 11) d_Cables_add_6 (by decide) (fun c9 => absurd c9 e1) (fun _ => ?_)
  refine ab_iconst (v := (-1)) d_Cables_add_9 rfl ?_
  exact ab_iret (ty := .int) d_Cables_add_10 rfl rfl rfl
theorem r_Reader_readCable_0 {w : ab_Wd} {d n nc ns : Nat} {I : Nat → Nat → Int32} {L : Nat → Nat → Int64} {res : ab_Re} (hT : w.1.stackTraces = false)  (hc : nc ≤ res.2.2.2.2.2.1) (hs : ns ≤ res.2.2.2.2.2.2)
    (h : (((I kx_trial 1) < 24 → (ab_E w (d + 1) mt_Reader_readCable 17 [.ref kx_reader, .null, .null, .null, .null] [] (I, L, ab_RR, n, nc, ns) res)) ∧ (¬ (I kx_trial 1) < 24 → (((I kx_reader 7) = 0 → (ab_E w (d + 1) mt_Reader_readCable 17 [.ref kx_reader, .null, .null, .null, .null] [] ((ab_up (ab_up I kx_reader 7 2) kx_reader 8 (I kx_reader 5)), L, ab_RR, n, nc, ns) res)) ∧ (¬ (I kx_reader 7) = 0 → (ab_E w (d + 1) mt_Reader_readCable 17 [.ref kx_reader, .null, .null, .null, .null] [] (I, L, ab_RR, n, nc, ns) res)))))) : ab_E w (d + 1) mt_Reader_readCable 0 [.ref kx_reader, .null, .null, .null, .null] [] (I, L, ab_RR, n, nc, ns) res := by
  refine ab_aload_n (i := 0) d_Reader_readCable_0 rfl rfl ?_
  refine ab_getR (ci := 4) (k := 2) (j := kx_trial) d_Reader_readCable_1 v_769 rfl (by decide) (by decide) rfl r_kx_reader_2 ?_
  refine ab_getI (ci := 1) (k := 1) d_Reader_readCable_4 v_198 rfl (by decide) (by decide) rfl ?_
  refine ab_bipush (v := 24) d_Reader_readCable_7 rfl ?_
  refine ab_icmp_lt (tgt := 17) d_Reader_readCable_9 (by decide) (fun c1 => ?_) (fun c1 => ?_)
  · have h := h.1 c1
    exact h
  · have h := h.2 c1
    refine ab_aload_n (i := 0) d_Reader_readCable_12 rfl rfl ?_
    refine ab_iconst (v := 2) d_Reader_readCable_13 rfl ?_
    by_cases c4 : (I kx_reader 7) = 0
    · have h := h.1 c4
      refine ab_callV (me2 := mt_Reader_fail) (b := kx_reader) (as := [.int 2]) (st := []) (rv := none) (M2 := ((ab_up (ab_up I kx_reader 7 2) kx_reader 8 (I kx_reader 5)), L, ab_RR, n, nc, ns)) d_Reader_readCable_14 ce_Reader_fail v_885 v_887 v_22 (by decide) rfl (Nat.le_of_ble_eq_true rfl) (cx_Reader_fail_1 2 hT c4) (Nat.le_refl _) (Nat.le_refl _) hc hs (fun j h9 => by cases h9) (fun _ _ => rfl) ?_
      show ab_E w (d + 1) mt_Reader_readCable 17 [.ref kx_reader, .null, .null, .null, .null] [] ((ab_up (ab_up I kx_reader 7 2) kx_reader 8 (I kx_reader 5)), L, ab_RR, n, nc, ns) res
      exact h
    · have h := h.2 c4
      refine ab_callV (me2 := mt_Reader_fail) (b := kx_reader) (as := [.int 2]) (st := []) (rv := none) (M2 := (I, L, ab_RR, n, nc, ns)) d_Reader_readCable_14 ce_Reader_fail v_885 v_887 v_22 (by decide) rfl (Nat.le_of_ble_eq_true rfl) (cx_Reader_fail_0 2 hT c4) (Nat.le_refl _) (Nat.le_refl _) hc hs (fun j h9 => by cases h9) (fun _ _ => rfl) ?_
      show ab_E w (d + 1) mt_Reader_readCable 17 [.ref kx_reader, .null, .null, .null, .null] [] (I, L, ab_RR, n, nc, ns) res
      exact h
theorem r_Reader_readCable_17 {w : ab_Wd} {d n nc ns : Nat} {I : Nat → Nat → Int32} {L : Nat → Nat → Int64} {res : ab_Re} (hT : w.1.stackTraces = false)  (hc : nc ≤ res.2.2.2.2.2.1) (hs : ns ≤ res.2.2.2.2.2.2)
    (h : ∃ (I2 : Nat → Nat → Int32), ab_C w d mt_Reader_toNext [.ref kx_reader] (I, L, ab_RR, n, nc, ns) (.inl none, (I2, L, ab_RR, n, nc, ns)) ∧ ∃ (r3 : Int32) (I4 : Nat → Nat → Int32), ab_C w d mt_Reader_readSite [.ref kx_reader] (I2, L, ab_RR, n, nc, ns) (.inl (some (.int r3)), (I4, L, ab_RR, n, nc, ns)) ∧ ∃ (I6 : Nat → Nat → Int32), ab_C w d mt_Reader_toNext [.ref kx_reader] (I4, L, ab_RR, n, nc, ns) (.inl none, (I6, L, ab_RR, n, nc, ns)) ∧ ∃ (r7 : Int32) (I8 : Nat → Nat → Int32), ab_C w d mt_Reader_readSite [.ref kx_reader] (I6, L, ab_RR, n, nc, ns) (.inl (some (.int r7)), (I8, L, ab_RR, n, nc, ns)) ∧ ((¬ r3 = r7 → (ab_E w (d + 1) mt_Reader_readCable 45 [.ref kx_reader, .int r3, .int r7, .null, .null] [] (I8, L, ab_RR, n, nc, ns) res)) ∧ (r3 = r7 → (((I8 kx_reader 7) = 0 → (ab_E w (d + 1) mt_Reader_readCable 45 [.ref kx_reader, .int r3, .int r7, .null, .null] [] ((ab_up (ab_up I8 kx_reader 7 5) kx_reader 8 (I8 kx_reader 5)), L, ab_RR, n, nc, ns) res)) ∧ (¬ (I8 kx_reader 7) = 0 → (ab_E w (d + 1) mt_Reader_readCable 45 [.ref kx_reader, .int r3, .int r7, .null, .null] [] (I8, L, ab_RR, n, nc, ns) res)))))) : ab_E w (d + 1) mt_Reader_readCable 17 [.ref kx_reader, .null, .null, .null, .null] [] (I, L, ab_RR, n, nc, ns) res := by
  refine ab_aload_n (i := 0) d_Reader_readCable_17 rfl rfl ?_
  obtain ⟨I2, hC, h⟩ := h
  refine ab_callV (me2 := mt_Reader_toNext) (b := kx_reader) (as := []) (st := []) (rv := none) (M2 := (I2, L, ab_RR, n, nc, ns)) d_Reader_readCable_18 ce_Reader_toNext v_804 v_806 v_14 (by decide) rfl (Nat.le_of_ble_eq_true rfl) hC (Nat.le_refl _) (Nat.le_refl _) hc hs (fun j h9 => by cases h9) (fun _ _ => rfl) ?_
  show ab_E w (d + 1) mt_Reader_readCable 21 [.ref kx_reader, .null, .null, .null, .null] [] (I2, L, ab_RR, n, nc, ns) res
  refine ab_aload_n (i := 0) d_Reader_readCable_21 rfl rfl ?_
  obtain ⟨r3, I4, hC, h⟩ := h
  refine ab_callV (me2 := mt_Reader_readSite) (b := kx_reader) (as := []) (st := []) (rv := (some (.int r3))) (M2 := (I4, L, ab_RR, n, nc, ns)) d_Reader_readCable_22 ce_Reader_readSite v_898 v_900 v_25 (by decide) rfl (Nat.le_of_ble_eq_true rfl) hC (Nat.le_refl _) (Nat.le_refl _) hc hs (fun j h9 => by cases h9) (fun _ _ => rfl) ?_
  show ab_E w (d + 1) mt_Reader_readCable 25 [.ref kx_reader, .null, .null, .null, .null] [.int r3] (I4, L, ab_RR, n, nc, ns) res
  refine ab_istore_n (i := 1) d_Reader_readCable_25 rfl (by decide) (Or.inr rfl) ?_
  refine ab_aload_n (i := 0) d_Reader_readCable_26 rfl rfl ?_
  obtain ⟨I6, hC, h⟩ := h
  refine ab_callV (me2 := mt_Reader_toNext) (b := kx_reader) (as := []) (st := []) (rv := none) (M2 := (I6, L, ab_RR, n, nc, ns)) d_Reader_readCable_27 ce_Reader_toNext v_804 v_806 v_14 (by decide) rfl (Nat.le_of_ble_eq_true rfl) hC (Nat.le_refl _) (Nat.le_refl _) hc hs (fun j h9 => by cases h9) (fun _ _ => rfl) ?_
  show ab_E w (d + 1) mt_Reader_readCable 30 [.ref kx_reader, .int r3, .null, .null, .null] [] (I6, L, ab_RR, n, nc, ns) res
  refine ab_aload_n (i := 0) d_Reader_readCable_30 rfl rfl ?_
  obtain ⟨r7, I8, hC, h⟩ := h
  refine ab_callV (me2 := mt_Reader_readSite) (b := kx_reader) (as := []) (st := []) (rv := (some (.int r7))) (M2 := (I8, L, ab_RR, n, nc, ns)) d_Reader_readCable_31 ce_Reader_readSite v_898 v_900 v_25 (by decide) rfl (Nat.le_of_ble_eq_true rfl) hC (Nat.le_refl _) (Nat.le_refl _) hc hs (fun j h9 => by cases h9) (fun _ _ => rfl) ?_
  show ab_E w (d + 1) mt_Reader_readCable 34 [.ref kx_reader, .int r3, .null, .null, .null] [.int r7] (I8, L, ab_RR, n, nc, ns) res
  refine ab_istore_n (i := 2) d_Reader_readCable_34 rfl (by decide) (Or.inr rfl) ?_
  refine ab_iload_n (i := 1) d_Reader_readCable_35 rfl rfl ?_
  refine ab_iload_n (i := 2) d_Reader_readCable_36 rfl rfl ?_
  refine ab_icmp_ne (tgt := 45) d_Reader_readCable_37 (by decide) (fun c9 => ?_) (fun c9 => ?_)
  · have h := h.1 c9
    exact h
  · have h := h.2 c9
    refine ab_aload_n (i := 0) d_Reader_readCable_40 rfl rfl ?_
    refine ab_iconst (v := 5) d_Reader_readCable_41 rfl ?_
    by_cases c12 : (I8 kx_reader 7) = 0
    · have h := h.1 c12
      refine ab_callV (me2 := mt_Reader_fail) (b := kx_reader) (as := [.int 5]) (st := []) (rv := none) (M2 := ((ab_up (ab_up I8 kx_reader 7 5) kx_reader 8 (I8 kx_reader 5)), L, ab_RR, n, nc, ns)) d_Reader_readCable_42 ce_Reader_fail v_885 v_887 v_22 (by decide) rfl (Nat.le_of_ble_eq_true rfl) (cx_Reader_fail_1 5 hT c12) (Nat.le_refl _) (Nat.le_refl _) hc hs (fun j h9 => by cases h9) (fun _ _ => rfl) ?_
      show ab_E w (d + 1) mt_Reader_readCable 45 [.ref kx_reader, .int r3, .int r7, .null, .null] [] ((ab_up (ab_up I8 kx_reader 7 5) kx_reader 8 (I8 kx_reader 5)), L, ab_RR, n, nc, ns) res
      exact h
    · have h := h.2 c12
      refine ab_callV (me2 := mt_Reader_fail) (b := kx_reader) (as := [.int 5]) (st := []) (rv := none) (M2 := (I8, L, ab_RR, n, nc, ns)) d_Reader_readCable_42 ce_Reader_fail v_885 v_887 v_22 (by decide) rfl (Nat.le_of_ble_eq_true rfl) (cx_Reader_fail_0 5 hT c12) (Nat.le_refl _) (Nat.le_refl _) hc hs (fun j h9 => by cases h9) (fun _ _ => rfl) ?_
      show ab_E w (d + 1) mt_Reader_readCable 45 [.ref kx_reader, .int r3, .int r7, .null, .null] [] (I8, L, ab_RR, n, nc, ns) res
      exact h
theorem r_Reader_readCable_45 {w : ab_Wd} {d n nc ns : Nat} {I : Nat → Nat → Int32} {L : Nat → Nat → Int64} {res : ab_Re} (hT : w.1.stackTraces = false) (v1 : Int32) (v2 : Int32) (hc : nc ≤ res.2.2.2.2.2.1) (hs : ns ≤ res.2.2.2.2.2.2)
    (h : ∃ (I2 : Nat → Nat → Int32), ab_C w d mt_Reader_toNext [.ref kx_reader] (I, L, ab_RR, n, nc, ns) (.inl none, (I2, L, ab_RR, n, nc, ns)) ∧ ∃ (r3 : Int32) (I4 : Nat → Nat → Int32), ab_C w d mt_Reader_readNumber [.ref kx_reader, .int 1, .int 999] (I2, L, ab_RR, n, nc, ns) (.inl (some (.int r3)), (I4, L, ab_RR, n, nc, ns)) ∧ ∃ (I6 : Nat → Nat → Int32), ab_C w d mt_Reader_toNext [.ref kx_reader] (I4, L, ab_RR, n, nc, ns) (.inl none, (I6, L, ab_RR, n, nc, ns)) ∧ ((¬ (I6 kx_reader 4) = 2 → (ab_E w (d + 1) mt_Reader_readCable 85 [.ref kx_reader, .int v1, .int v2, .int r3, .int 0] [] (I6, L, ab_RR, n, nc, ns) res)) ∧ ((I6 kx_reader 4) = 2 → (∃ (r8 : Int32) (I9 : Nat → Nat → Int32), ab_C w d mt_Reader_readNumber [.ref kx_reader, .int 0, .int 3] (I6, L, ab_RR, n, nc, ns) (.inl (some (.int r8)), (I9, L, ab_RR, n, nc, ns)) ∧ ∃ (I11 : Nat → Nat → Int32), ab_C w d mt_Reader_toNext [.ref kx_reader] (I9, L, ab_RR, n, nc, ns) (.inl none, (I11, L, ab_RR, n, nc, ns)) ∧ ab_E w (d + 1) mt_Reader_readCable 85 [.ref kx_reader, .int v1, .int v2, .int r3, .int r8] [] (I11, L, ab_RR, n, nc, ns) res)))) : ab_E w (d + 1) mt_Reader_readCable 45 [.ref kx_reader, .int v1, .int v2, .null, .null] [] (I, L, ab_RR, n, nc, ns) res := by
  refine ab_aload_n (i := 0) d_Reader_readCable_45 rfl rfl ?_
  obtain ⟨I2, hC, h⟩ := h
  refine ab_callV (me2 := mt_Reader_toNext) (b := kx_reader) (as := []) (st := []) (rv := none) (M2 := (I2, L, ab_RR, n, nc, ns)) d_Reader_readCable_46 ce_Reader_toNext v_804 v_806 v_14 (by decide) rfl (Nat.le_of_ble_eq_true rfl) hC (Nat.le_refl _) (Nat.le_refl _) hc hs (fun j h9 => by cases h9) (fun _ _ => rfl) ?_
  show ab_E w (d + 1) mt_Reader_readCable 49 [.ref kx_reader, .int v1, .int v2, .null, .null] [] (I2, L, ab_RR, n, nc, ns) res
  refine ab_aload_n (i := 0) d_Reader_readCable_49 rfl rfl ?_
  refine ab_iconst (v := 1) d_Reader_readCable_50 rfl ?_
  refine ab_sipush (v := 999) d_Reader_readCable_51 rfl ?_
  obtain ⟨r3, I4, hC, h⟩ := h
  refine ab_callV (me2 := mt_Reader_readNumber) (b := kx_reader) (as := [.int 1, .int 999]) (st := []) (rv := (some (.int r3))) (M2 := (I4, L, ab_RR, n, nc, ns)) d_Reader_readCable_54 ce_Reader_readNumber v_889 v_891 v_23 (by decide) rfl (Nat.le_of_ble_eq_true rfl) hC (Nat.le_refl _) (Nat.le_refl _) hc hs (fun j h9 => by cases h9) (fun _ _ => rfl) ?_
  show ab_E w (d + 1) mt_Reader_readCable 57 [.ref kx_reader, .int v1, .int v2, .null, .null] [.int r3] (I4, L, ab_RR, n, nc, ns) res
  refine ab_istore_n (i := 3) d_Reader_readCable_57 rfl (by decide) (Or.inr rfl) ?_
  refine ab_aload_n (i := 0) d_Reader_readCable_58 rfl rfl ?_
  obtain ⟨I6, hC, h⟩ := h
  refine ab_callV (me2 := mt_Reader_toNext) (b := kx_reader) (as := []) (st := []) (rv := none) (M2 := (I6, L, ab_RR, n, nc, ns)) d_Reader_readCable_59 ce_Reader_toNext v_804 v_806 v_14 (by decide) rfl (Nat.le_of_ble_eq_true rfl) hC (Nat.le_refl _) (Nat.le_refl _) hc hs (fun j h9 => by cases h9) (fun _ _ => rfl) ?_
  show ab_E w (d + 1) mt_Reader_readCable 62 [.ref kx_reader, .int v1, .int v2, .int r3, .null] [] (I6, L, ab_RR, n, nc, ns) res
  refine ab_iconst (v := 0) d_Reader_readCable_62 rfl ?_
  refine ab_istore (i := 4) d_Reader_readCable_63 (by decide) (Or.inr rfl) ?_
  refine ab_aload_n (i := 0) d_Reader_readCable_65 rfl rfl ?_
  refine ab_getI (ci := 4) (k := 4) d_Reader_readCable_66 v_771 rfl (by decide) (by decide) rfl ?_
  refine ab_iconst (v := 2) d_Reader_readCable_69 rfl ?_
  refine ab_icmp_ne (tgt := 85) d_Reader_readCable_70 (by decide) (fun c7 => ?_) (fun c7 => ?_)
  · have h := h.1 c7
    exact h
  · have h := h.2 c7
    refine ab_aload_n (i := 0) d_Reader_readCable_73 rfl rfl ?_
    refine ab_iconst (v := 0) d_Reader_readCable_74 rfl ?_
    refine ab_iconst (v := 3) d_Reader_readCable_75 rfl ?_
    obtain ⟨r8, I9, hC, h⟩ := h
    refine ab_callV (me2 := mt_Reader_readNumber) (b := kx_reader) (as := [.int 0, .int 3]) (st := []) (rv := (some (.int r8))) (M2 := (I9, L, ab_RR, n, nc, ns)) d_Reader_readCable_76 ce_Reader_readNumber v_889 v_891 v_23 (by decide) rfl (Nat.le_of_ble_eq_true rfl) hC (Nat.le_refl _) (Nat.le_refl _) hc hs (fun j h9 => by cases h9) (fun _ _ => rfl) ?_
    show ab_E w (d + 1) mt_Reader_readCable 79 [.ref kx_reader, .int v1, .int v2, .int r3, .int 0] [.int r8] (I9, L, ab_RR, n, nc, ns) res
    refine ab_istore (i := 4) d_Reader_readCable_79 (by decide) (Or.inr rfl) ?_
    refine ab_aload_n (i := 0) d_Reader_readCable_81 rfl rfl ?_
    obtain ⟨I11, hC, h⟩ := h
    refine ab_callV (me2 := mt_Reader_toNext) (b := kx_reader) (as := []) (st := []) (rv := none) (M2 := (I11, L, ab_RR, n, nc, ns)) d_Reader_readCable_82 ce_Reader_toNext v_804 v_806 v_14 (by decide) rfl (Nat.le_of_ble_eq_true rfl) hC (Nat.le_refl _) (Nat.le_refl _) hc hs (fun j h9 => by cases h9) (fun _ _ => rfl) ?_
    show ab_E w (d + 1) mt_Reader_readCable 85 [.ref kx_reader, .int v1, .int v2, .int r3, .int r8] [] (I11, L, ab_RR, n, nc, ns) res
    exact h
theorem r_Reader_readCable_85 {w : ab_Wd} {d n nc ns : Nat} {I : Nat → Nat → Int32} {L : Nat → Nat → Int64} {res : ab_Re} (hT : w.1.stackTraces = false) (v1 : Int32) (v2 : Int32) (v3 : Int32) (v4 : Int32) (hc : nc ≤ res.2.2.2.2.2.1) (hs : ns ≤ res.2.2.2.2.2.2)
    (h : ((¬ (I kx_reader 7) = 0 → (ab_E w (d + 1) mt_Reader_readCable 105 [.ref kx_reader, .int v1, .int v2, .int v3, .int v4] [] (I, L, ab_RR, n, nc, ns) res)) ∧ ((I kx_reader 7) = 0 → (((I kx_trial 1) < 24 → ((vp_in (I kx_trial 1) 24) ∧ ab_E w (d + 1) mt_Reader_readCable 105 [.ref kx_reader, .int v1, .int v2, .int v3, .int v4] [] ((ab_up (ab_up (ab_up (ab_up (ab_up (ab_up I kx_trial_first (I kx_trial 1).toNatClampNeg v1) kx_trial_second (I kx_trial 1).toNatClampNeg v2) kx_trial_price (I kx_trial 1).toNatClampNeg v3) kx_trial_firm (I kx_trial 1).toNatClampNeg v4) kx_trial 2 ((I kx_trial 2) ||| ((1 : Int32) <<< ((I kx_trial 1) &&& 31)))) kx_trial 1 ((I kx_trial 1) + 1)), L, ab_RR, n, nc, ns) res)) ∧ (¬ (I kx_trial 1) < 24 → (ab_E w (d + 1) mt_Reader_readCable 105 [.ref kx_reader, .int v1, .int v2, .int v3, .int v4] [] (I, L, ab_RR, n, nc, ns) res)))))) : ab_E w (d + 1) mt_Reader_readCable 85 [.ref kx_reader, .int v1, .int v2, .int v3, .int v4] [] (I, L, ab_RR, n, nc, ns) res := by
  refine ab_aload_n (i := 0) d_Reader_readCable_85 rfl rfl ?_
  refine ab_getI (ci := 4) (k := 7) d_Reader_readCable_86 v_774 rfl (by decide) (by decide) rfl ?_
  refine ab_if_ne (tgt := 105) d_Reader_readCable_89 (by decide) (fun c1 => ?_) (fun c1 => ?_)
  · have h := h.1 c1
    exact h
  · have h := h.2 c1
    refine ab_aload_n (i := 0) d_Reader_readCable_92 rfl rfl ?_
    refine ab_getR (ci := 4) (k := 2) (j := kx_trial) d_Reader_readCable_93 v_769 rfl (by decide) (by decide) rfl r_kx_reader_2 ?_
    refine ab_iload_n (i := 1) d_Reader_readCable_96 rfl rfl ?_
    refine ab_iload_n (i := 2) d_Reader_readCable_97 rfl rfl ?_
    refine ab_iload_n (i := 3) d_Reader_readCable_98 rfl rfl ?_
    refine ab_iload (i := 4) d_Reader_readCable_99 rfl ?_
    by_cases c4 : (I kx_trial 1) < 24
    · have h := h.1 c4
      have g5 := h.1; have h := h.2
      refine ab_callV (me2 := mt_Cables_add) (b := kx_trial) (as := [.int v1, .int v2, .int v3, .int v4]) (st := []) (rv := (some (.int (((I kx_trial 1) + 1) - 1)))) (M2 := ((ab_up (ab_up (ab_up (ab_up (ab_up (ab_up I kx_trial_first (I kx_trial 1).toNatClampNeg v1) kx_trial_second (I kx_trial 1).toNatClampNeg v2) kx_trial_price (I kx_trial 1).toNatClampNeg v3) kx_trial_firm (I kx_trial 1).toNatClampNeg v4) kx_trial 2 ((I kx_trial 2) ||| ((1 : Int32) <<< ((I kx_trial 1) &&& 31)))) kx_trial 1 ((I kx_trial 1) + 1)), L, ab_RR, n, nc, ns)) d_Reader_readCable_101 ce_Cables_add v_902 v_638 v_639 (by decide) rfl (Nat.le_of_ble_eq_true rfl) (cx_Cables_add_1_0 v1 v2 v3 v4 hT c4 g5 g5 g5 g5) (Nat.le_refl _) (Nat.le_refl _) hc hs (fun j h9 => by cases h9) (fun _ _ => rfl) ?_
      show ab_E w (d + 1) mt_Reader_readCable 104 [.ref kx_reader, .int v1, .int v2, .int v3, .int v4] [.int (((I kx_trial 1) + 1) - 1)] ((ab_up (ab_up (ab_up (ab_up (ab_up (ab_up I kx_trial_first (I kx_trial 1).toNatClampNeg v1) kx_trial_second (I kx_trial 1).toNatClampNeg v2) kx_trial_price (I kx_trial 1).toNatClampNeg v3) kx_trial_firm (I kx_trial 1).toNatClampNeg v4) kx_trial 2 ((I kx_trial 2) ||| ((1 : Int32) <<< ((I kx_trial 1) &&& 31)))) kx_trial 1 ((I kx_trial 1) + 1)), L, ab_RR, n, nc, ns) res
      refine ab_popi d_Reader_readCable_104 ?_
      exact h
    · have h := h.2 c4
      refine ab_callV (me2 := mt_Cables_add) (b := kx_trial) (as := [.int v1, .int v2, .int v3, .int v4]) (st := []) (rv := (some (.int (-1)))) (M2 := (I, L, ab_RR, n, nc, ns)) d_Reader_readCable_101 ce_Cables_add v_902 v_638 v_639 (by decide) rfl (Nat.le_of_ble_eq_true rfl) (cx_Cables_add_1_1 v1 v2 v3 v4 hT c4) (Nat.le_refl _) (Nat.le_refl _) hc hs (fun j h9 => by cases h9) (fun _ _ => rfl) ?_
      show ab_E w (d + 1) mt_Reader_readCable 104 [.ref kx_reader, .int v1, .int v2, .int v3, .int v4] [.int (-1)] (I, L, ab_RR, n, nc, ns) res
      refine ab_popi d_Reader_readCable_104 ?_
      exact h
theorem r_Reader_readCable_105 {w : ab_Wd} {d n nc ns : Nat} {I : Nat → Nat → Int32} {L : Nat → Nat → Int64} {res : ab_Re} (hT : w.1.stackTraces = false) (v1 : Int32) (v2 : Int32) (v3 : Int32) (v4 : Int32) (hc : nc ≤ res.2.2.2.2.2.1) (hs : ns ≤ res.2.2.2.2.2.2)
    (h : res = (.inl none, (I, L, ab_RR, n, nc, ns))) : ab_E w (d + 1) mt_Reader_readCable 105 [.ref kx_reader, .int v1, .int v2, .int v3, .int v4] [] (I, L, ab_RR, n, nc, ns) res := by
  exact ab_vret d_Reader_readCable_105 rfl h
theorem r_Reader_readSites_0 {w : ab_Wd} {d n nc ns : Nat} {I : Nat → Nat → Int32} {L : Nat → Nat → Int64} {res : ab_Re} (hT : w.1.stackTraces = false) (v1 : Int32) (hc : nc ≤ res.2.2.2.2.2.1) (hs : ns ≤ res.2.2.2.2.2.2)
    (h : ((¬ v1 = 0 → (∃ (I3 : Nat → Nat → Int32), ab_C w d mt_Reader_toNext [.ref kx_reader] (I, L, ab_RR, n, nc, ns) (.inl none, (I3, L, ab_RR, n, nc, ns)) ∧ ∃ (r4 : Int32) (I5 : Nat → Nat → Int32), ab_C w d mt_Reader_readNumber [.ref kx_reader, .int 2, .int 10] (I3, L, ab_RR, n, nc, ns) (.inl (some (.int r4)), (I5, L, ab_RR, n, nc, ns)) ∧ ((¬ (I5 kx_reader 7) = 0 → (∃ (I8 : Nat → Nat → Int32), ab_C w d mt_Reader_toNext [.ref kx_reader] (I5, L, ab_RR, n, nc, ns) (.inl none, (I8, L, ab_RR, n, nc, ns)) ∧ res = (.inl none, (I8, L, ab_RR, n, nc, ns)))) ∧ ((I5 kx_reader 7) = 0 → (∃ (I10 : Nat → Nat → Int32), ab_C w d mt_Reader_toNext [.ref kx_reader] ((ab_up I5 kx_trial 0 r4), L, ab_RR, n, nc, ns) (.inl none, (I10, L, ab_RR, n, nc, ns)) ∧ res = (.inl none, (I10, L, ab_RR, n, nc, ns))))))) ∧ (v1 = 0 → (((I kx_reader 7) = 0 → (∃ (I15 : Nat → Nat → Int32), ab_C w d mt_Reader_toNext [.ref kx_reader] ((ab_up (ab_up I kx_reader 7 4) kx_reader 8 (I kx_reader 5)), L, ab_RR, n, nc, ns) (.inl none, (I15, L, ab_RR, n, nc, ns)) ∧ ∃ (r16 : Int32) (I17 : Nat → Nat → Int32), ab_C w d mt_Reader_readNumber [.ref kx_reader, .int 2, .int 10] (I15, L, ab_RR, n, nc, ns) (.inl (some (.int r16)), (I17, L, ab_RR, n, nc, ns)) ∧ ((¬ (I17 kx_reader 7) = 0 → (∃ (I20 : Nat → Nat → Int32), ab_C w d mt_Reader_toNext [.ref kx_reader] (I17, L, ab_RR, n, nc, ns) (.inl none, (I20, L, ab_RR, n, nc, ns)) ∧ res = (.inl none, (I20, L, ab_RR, n, nc, ns)))) ∧ ((I17 kx_reader 7) = 0 → (∃ (I22 : Nat → Nat → Int32), ab_C w d mt_Reader_toNext [.ref kx_reader] ((ab_up I17 kx_trial 0 r16), L, ab_RR, n, nc, ns) (.inl none, (I22, L, ab_RR, n, nc, ns)) ∧ res = (.inl none, (I22, L, ab_RR, n, nc, ns))))))) ∧ (¬ (I kx_reader 7) = 0 → (∃ (I24 : Nat → Nat → Int32), ab_C w d mt_Reader_toNext [.ref kx_reader] (I, L, ab_RR, n, nc, ns) (.inl none, (I24, L, ab_RR, n, nc, ns)) ∧ ∃ (r25 : Int32) (I26 : Nat → Nat → Int32), ab_C w d mt_Reader_readNumber [.ref kx_reader, .int 2, .int 10] (I24, L, ab_RR, n, nc, ns) (.inl (some (.int r25)), (I26, L, ab_RR, n, nc, ns)) ∧ ((¬ (I26 kx_reader 7) = 0 → (∃ (I29 : Nat → Nat → Int32), ab_C w d mt_Reader_toNext [.ref kx_reader] (I26, L, ab_RR, n, nc, ns) (.inl none, (I29, L, ab_RR, n, nc, ns)) ∧ res = (.inl none, (I29, L, ab_RR, n, nc, ns)))) ∧ ((I26 kx_reader 7) = 0 → (∃ (I31 : Nat → Nat → Int32), ab_C w d mt_Reader_toNext [.ref kx_reader] ((ab_up I26 kx_trial 0 r25), L, ab_RR, n, nc, ns) (.inl none, (I31, L, ab_RR, n, nc, ns)) ∧ res = (.inl none, (I31, L, ab_RR, n, nc, ns))))))))))) : ab_E w (d + 1) mt_Reader_readSites 0 [.ref kx_reader, .int v1, .null] [] (I, L, ab_RR, n, nc, ns) res := by
  refine ab_iload_n (i := 1) d_Reader_readSites_0 rfl rfl ?_
  refine ab_if_ne (tgt := 9) d_Reader_readSites_1 (by decide) (fun c1 => ?_) (fun c1 => ?_)
  · have h := h.1 c1
    refine ab_aload_n (i := 0) d_Reader_readSites_9 rfl rfl ?_
    obtain ⟨I3, hC, h⟩ := h
    refine ab_callV (me2 := mt_Reader_toNext) (b := kx_reader) (as := []) (st := []) (rv := none) (M2 := (I3, L, ab_RR, n, nc, ns)) d_Reader_readSites_10 ce_Reader_toNext v_804 v_806 v_14 (by decide) rfl (Nat.le_of_ble_eq_true rfl) hC (Nat.le_refl _) (Nat.le_refl _) hc hs (fun j h9 => by cases h9) (fun _ _ => rfl) ?_
    show ab_E w (d + 1) mt_Reader_readSites 13 [.ref kx_reader, .int v1, .null] [] (I3, L, ab_RR, n, nc, ns) res
    refine ab_aload_n (i := 0) d_Reader_readSites_13 rfl rfl ?_
    refine ab_iconst (v := 2) d_Reader_readSites_14 rfl ?_
    refine ab_bipush (v := 10) d_Reader_readSites_15 rfl ?_
    obtain ⟨r4, I5, hC, h⟩ := h
    refine ab_callV (me2 := mt_Reader_readNumber) (b := kx_reader) (as := [.int 2, .int 10]) (st := []) (rv := (some (.int r4))) (M2 := (I5, L, ab_RR, n, nc, ns)) d_Reader_readSites_17 ce_Reader_readNumber v_889 v_891 v_23 (by decide) rfl (Nat.le_of_ble_eq_true rfl) hC (Nat.le_refl _) (Nat.le_refl _) hc hs (fun j h9 => by cases h9) (fun _ _ => rfl) ?_
    show ab_E w (d + 1) mt_Reader_readSites 20 [.ref kx_reader, .int v1, .null] [.int r4] (I5, L, ab_RR, n, nc, ns) res
    refine ab_istore_n (i := 2) d_Reader_readSites_20 rfl (by decide) (Or.inr rfl) ?_
    refine ab_aload_n (i := 0) d_Reader_readSites_21 rfl rfl ?_
    refine ab_getI (ci := 4) (k := 7) d_Reader_readSites_22 v_774 rfl (by decide) (by decide) rfl ?_
    refine ab_if_ne (tgt := 36) d_Reader_readSites_25 (by decide) (fun c6 => ?_) (fun c6 => ?_)
    · have h := h.1 c6
      refine ab_aload_n (i := 0) d_Reader_readSites_36 rfl rfl ?_
      obtain ⟨I8, hC, h⟩ := h
      refine ab_callV (me2 := mt_Reader_toNext) (b := kx_reader) (as := []) (st := []) (rv := none) (M2 := (I8, L, ab_RR, n, nc, ns)) d_Reader_readSites_37 ce_Reader_toNext v_804 v_806 v_14 (by decide) rfl (Nat.le_of_ble_eq_true rfl) hC (Nat.le_refl _) (Nat.le_refl _) hc hs (fun j h9 => by cases h9) (fun _ _ => rfl) ?_
      show ab_E w (d + 1) mt_Reader_readSites 40 [.ref kx_reader, .int v1, .int r4] [] (I8, L, ab_RR, n, nc, ns) res
      exact ab_vret d_Reader_readSites_40 rfl h
    · have h := h.2 c6
      refine ab_aload_n (i := 0) d_Reader_readSites_28 rfl rfl ?_
      refine ab_getR (ci := 4) (k := 2) (j := kx_trial) d_Reader_readSites_29 v_769 rfl (by decide) (by decide) rfl r_kx_reader_2 ?_
      refine ab_iload_n (i := 2) d_Reader_readSites_32 rfl rfl ?_
      refine ab_putI (ci := 1) (k := 0) d_Reader_readSites_33 v_189 rfl (by decide) (by decide) rfl (Or.inl rfl) rfl rfl ?_
      refine ab_aload_n (i := 0) d_Reader_readSites_36 rfl rfl ?_
      obtain ⟨I10, hC, h⟩ := h
      refine ab_callV (me2 := mt_Reader_toNext) (b := kx_reader) (as := []) (st := []) (rv := none) (M2 := (I10, L, ab_RR, n, nc, ns)) d_Reader_readSites_37 ce_Reader_toNext v_804 v_806 v_14 (by decide) rfl (Nat.le_of_ble_eq_true rfl) hC (Nat.le_refl _) (Nat.le_refl _) hc hs (fun j h9 => by cases h9) (fun _ _ => rfl) ?_
      show ab_E w (d + 1) mt_Reader_readSites 40 [.ref kx_reader, .int v1, .int r4] [] (I10, L, ab_RR, n, nc, ns) res
      exact ab_vret d_Reader_readSites_40 rfl h
  · have h := h.2 c1
    refine ab_aload_n (i := 0) d_Reader_readSites_4 rfl rfl ?_
    refine ab_iconst (v := 4) d_Reader_readSites_5 rfl ?_
    by_cases c13 : (I kx_reader 7) = 0
    · have h := h.1 c13
      refine ab_callV (me2 := mt_Reader_fail) (b := kx_reader) (as := [.int 4]) (st := []) (rv := none) (M2 := ((ab_up (ab_up I kx_reader 7 4) kx_reader 8 (I kx_reader 5)), L, ab_RR, n, nc, ns)) d_Reader_readSites_6 ce_Reader_fail v_885 v_887 v_22 (by decide) rfl (Nat.le_of_ble_eq_true rfl) (cx_Reader_fail_1 4 hT c13) (Nat.le_refl _) (Nat.le_refl _) hc hs (fun j h9 => by cases h9) (fun _ _ => rfl) ?_
      show ab_E w (d + 1) mt_Reader_readSites 9 [.ref kx_reader, .int v1, .null] [] ((ab_up (ab_up I kx_reader 7 4) kx_reader 8 (I kx_reader 5)), L, ab_RR, n, nc, ns) res
      refine ab_aload_n (i := 0) d_Reader_readSites_9 rfl rfl ?_
      obtain ⟨I15, hC, h⟩ := h
      refine ab_callV (me2 := mt_Reader_toNext) (b := kx_reader) (as := []) (st := []) (rv := none) (M2 := (I15, L, ab_RR, n, nc, ns)) d_Reader_readSites_10 ce_Reader_toNext v_804 v_806 v_14 (by decide) rfl (Nat.le_of_ble_eq_true rfl) hC (Nat.le_refl _) (Nat.le_refl _) hc hs (fun j h9 => by cases h9) (fun _ _ => rfl) ?_
      show ab_E w (d + 1) mt_Reader_readSites 13 [.ref kx_reader, .int v1, .null] [] (I15, L, ab_RR, n, nc, ns) res
      refine ab_aload_n (i := 0) d_Reader_readSites_13 rfl rfl ?_
      refine ab_iconst (v := 2) d_Reader_readSites_14 rfl ?_
      refine ab_bipush (v := 10) d_Reader_readSites_15 rfl ?_
      obtain ⟨r16, I17, hC, h⟩ := h
      refine ab_callV (me2 := mt_Reader_readNumber) (b := kx_reader) (as := [.int 2, .int 10]) (st := []) (rv := (some (.int r16))) (M2 := (I17, L, ab_RR, n, nc, ns)) d_Reader_readSites_17 ce_Reader_readNumber v_889 v_891 v_23 (by decide) rfl (Nat.le_of_ble_eq_true rfl) hC (Nat.le_refl _) (Nat.le_refl _) hc hs (fun j h9 => by cases h9) (fun _ _ => rfl) ?_
      show ab_E w (d + 1) mt_Reader_readSites 20 [.ref kx_reader, .int v1, .null] [.int r16] (I17, L, ab_RR, n, nc, ns) res
      refine ab_istore_n (i := 2) d_Reader_readSites_20 rfl (by decide) (Or.inr rfl) ?_
      refine ab_aload_n (i := 0) d_Reader_readSites_21 rfl rfl ?_
      refine ab_getI (ci := 4) (k := 7) d_Reader_readSites_22 v_774 rfl (by decide) (by decide) rfl ?_
      refine ab_if_ne (tgt := 36) d_Reader_readSites_25 (by decide) (fun c18 => ?_) (fun c18 => ?_)
      · have h := h.1 c18
        refine ab_aload_n (i := 0) d_Reader_readSites_36 rfl rfl ?_
        obtain ⟨I20, hC, h⟩ := h
        refine ab_callV (me2 := mt_Reader_toNext) (b := kx_reader) (as := []) (st := []) (rv := none) (M2 := (I20, L, ab_RR, n, nc, ns)) d_Reader_readSites_37 ce_Reader_toNext v_804 v_806 v_14 (by decide) rfl (Nat.le_of_ble_eq_true rfl) hC (Nat.le_refl _) (Nat.le_refl _) hc hs (fun j h9 => by cases h9) (fun _ _ => rfl) ?_
        show ab_E w (d + 1) mt_Reader_readSites 40 [.ref kx_reader, .int v1, .int r16] [] (I20, L, ab_RR, n, nc, ns) res
        exact ab_vret d_Reader_readSites_40 rfl h
      · have h := h.2 c18
        refine ab_aload_n (i := 0) d_Reader_readSites_28 rfl rfl ?_
        refine ab_getR (ci := 4) (k := 2) (j := kx_trial) d_Reader_readSites_29 v_769 rfl (by decide) (by decide) rfl r_kx_reader_2 ?_
        refine ab_iload_n (i := 2) d_Reader_readSites_32 rfl rfl ?_
        refine ab_putI (ci := 1) (k := 0) d_Reader_readSites_33 v_189 rfl (by decide) (by decide) rfl (Or.inl rfl) rfl rfl ?_
        refine ab_aload_n (i := 0) d_Reader_readSites_36 rfl rfl ?_
        obtain ⟨I22, hC, h⟩ := h
        refine ab_callV (me2 := mt_Reader_toNext) (b := kx_reader) (as := []) (st := []) (rv := none) (M2 := (I22, L, ab_RR, n, nc, ns)) d_Reader_readSites_37 ce_Reader_toNext v_804 v_806 v_14 (by decide) rfl (Nat.le_of_ble_eq_true rfl) hC (Nat.le_refl _) (Nat.le_refl _) hc hs (fun j h9 => by cases h9) (fun _ _ => rfl) ?_
        show ab_E w (d + 1) mt_Reader_readSites 40 [.ref kx_reader, .int v1, .int r16] [] (I22, L, ab_RR, n, nc, ns) res
        exact ab_vret d_Reader_readSites_40 rfl h
    · have h := h.2 c13
      refine ab_callV (me2 := mt_Reader_fail) (b := kx_reader) (as := [.int 4]) (st := []) (rv := none) (M2 := (I, L, ab_RR, n, nc, ns)) d_Reader_readSites_6 ce_Reader_fail v_885 v_887 v_22 (by decide) rfl (Nat.le_of_ble_eq_true rfl) (cx_Reader_fail_0 4 hT c13) (Nat.le_refl _) (Nat.le_refl _) hc hs (fun j h9 => by cases h9) (fun _ _ => rfl) ?_
      show ab_E w (d + 1) mt_Reader_readSites 9 [.ref kx_reader, .int v1, .null] [] (I, L, ab_RR, n, nc, ns) res
      refine ab_aload_n (i := 0) d_Reader_readSites_9 rfl rfl ?_
      obtain ⟨I24, hC, h⟩ := h
      refine ab_callV (me2 := mt_Reader_toNext) (b := kx_reader) (as := []) (st := []) (rv := none) (M2 := (I24, L, ab_RR, n, nc, ns)) d_Reader_readSites_10 ce_Reader_toNext v_804 v_806 v_14 (by decide) rfl (Nat.le_of_ble_eq_true rfl) hC (Nat.le_refl _) (Nat.le_refl _) hc hs (fun j h9 => by cases h9) (fun _ _ => rfl) ?_
      show ab_E w (d + 1) mt_Reader_readSites 13 [.ref kx_reader, .int v1, .null] [] (I24, L, ab_RR, n, nc, ns) res
      refine ab_aload_n (i := 0) d_Reader_readSites_13 rfl rfl ?_
      refine ab_iconst (v := 2) d_Reader_readSites_14 rfl ?_
      refine ab_bipush (v := 10) d_Reader_readSites_15 rfl ?_
      obtain ⟨r25, I26, hC, h⟩ := h
      refine ab_callV (me2 := mt_Reader_readNumber) (b := kx_reader) (as := [.int 2, .int 10]) (st := []) (rv := (some (.int r25))) (M2 := (I26, L, ab_RR, n, nc, ns)) d_Reader_readSites_17 ce_Reader_readNumber v_889 v_891 v_23 (by decide) rfl (Nat.le_of_ble_eq_true rfl) hC (Nat.le_refl _) (Nat.le_refl _) hc hs (fun j h9 => by cases h9) (fun _ _ => rfl) ?_
      show ab_E w (d + 1) mt_Reader_readSites 20 [.ref kx_reader, .int v1, .null] [.int r25] (I26, L, ab_RR, n, nc, ns) res
      refine ab_istore_n (i := 2) d_Reader_readSites_20 rfl (by decide) (Or.inr rfl) ?_
      refine ab_aload_n (i := 0) d_Reader_readSites_21 rfl rfl ?_
      refine ab_getI (ci := 4) (k := 7) d_Reader_readSites_22 v_774 rfl (by decide) (by decide) rfl ?_
      refine ab_if_ne (tgt := 36) d_Reader_readSites_25 (by decide) (fun c27 => ?_) (fun c27 => ?_)
      · have h := h.1 c27
        refine ab_aload_n (i := 0) d_Reader_readSites_36 rfl rfl ?_
        obtain ⟨I29, hC, h⟩ := h
        refine ab_callV (me2 := mt_Reader_toNext) (b := kx_reader) (as := []) (st := []) (rv := none) (M2 := (I29, L, ab_RR, n, nc, ns)) d_Reader_readSites_37 ce_Reader_toNext v_804 v_806 v_14 (by decide) rfl (Nat.le_of_ble_eq_true rfl) hC (Nat.le_refl _) (Nat.le_refl _) hc hs (fun j h9 => by cases h9) (fun _ _ => rfl) ?_
        show ab_E w (d + 1) mt_Reader_readSites 40 [.ref kx_reader, .int v1, .int r25] [] (I29, L, ab_RR, n, nc, ns) res
        exact ab_vret d_Reader_readSites_40 rfl h
      · have h := h.2 c27
        refine ab_aload_n (i := 0) d_Reader_readSites_28 rfl rfl ?_
        refine ab_getR (ci := 4) (k := 2) (j := kx_trial) d_Reader_readSites_29 v_769 rfl (by decide) (by decide) rfl r_kx_reader_2 ?_
        refine ab_iload_n (i := 2) d_Reader_readSites_32 rfl rfl ?_
        refine ab_putI (ci := 1) (k := 0) d_Reader_readSites_33 v_189 rfl (by decide) (by decide) rfl (Or.inl rfl) rfl rfl ?_
        refine ab_aload_n (i := 0) d_Reader_readSites_36 rfl rfl ?_
        obtain ⟨I31, hC, h⟩ := h
        refine ab_callV (me2 := mt_Reader_toNext) (b := kx_reader) (as := []) (st := []) (rv := none) (M2 := (I31, L, ab_RR, n, nc, ns)) d_Reader_readSites_37 ce_Reader_toNext v_804 v_806 v_14 (by decide) rfl (Nat.le_of_ble_eq_true rfl) hC (Nat.le_refl _) (Nat.le_refl _) hc hs (fun j h9 => by cases h9) (fun _ _ => rfl) ?_
        show ab_E w (d + 1) mt_Reader_readSites 40 [.ref kx_reader, .int v1, .int r25] [] (I31, L, ab_RR, n, nc, ns) res
        exact ab_vret d_Reader_readSites_40 rfl h
theorem r_Reader_passNumber_0 {w : ab_Wd} {d n nc ns : Nat} {I : Nat → Nat → Int32} {L : Nat → Nat → Int64} {res : ab_Re} (hT : w.1.stackTraces = false)  (hc : nc ≤ res.2.2.2.2.2.1) (hs : ns ≤ res.2.2.2.2.2.2)
    (h : ab_E w (d + 1) mt_Reader_passNumber 5 [.ref kx_reader] [] ((ab_up I kx_reader 6 0), L, ab_RR, n, nc, ns) res) : ab_E w (d + 1) mt_Reader_passNumber 0 [.ref kx_reader] [] (I, L, ab_RR, n, nc, ns) res := by
  refine ab_aload_n (i := 0) d_Reader_passNumber_0 rfl rfl ?_
  refine ab_iconst (v := 0) d_Reader_passNumber_1 rfl ?_
  refine ab_putI (ci := 4) (k := 6) d_Reader_passNumber_2 v_773 rfl (by decide) (by decide) rfl (Or.inl rfl) rfl rfl ?_
  exact h
theorem r_Reader_passNumber_5 {w : ab_Wd} {d n nc ns : Nat} {I : Nat → Nat → Int32} {L : Nat → Nat → Int64} {res : ab_Re} (hT : w.1.stackTraces = false)  (hc : nc ≤ res.2.2.2.2.2.1) (hs : ns ≤ res.2.2.2.2.2.2)
    (h : (((I kx_reader 1) ≤ (I kx_reader 3) → (res = (.inl none, (I, L, ab_RR, n, nc, ns)))) ∧ (¬ (I kx_reader 1) ≤ (I kx_reader 3) → ((vp_in (I kx_reader 3) 700) ∧ (((I kx_tape (I kx_reader 3).toNatClampNeg) < 48 → (res = (.inl none, (I, L, ab_RR, n, nc, ns)))) ∧ (¬ (I kx_tape (I kx_reader 3).toNatClampNeg) < 48 → ((57 < (I kx_tape (I kx_reader 3).toNatClampNeg) → (res = (.inl none, (I, L, ab_RR, n, nc, ns)))) ∧ (¬ 57 < (I kx_tape (I kx_reader 3).toNatClampNeg) → ((3 ≤ ((I kx_reader 3) - (I kx_reader 5)) → (ab_E w (d + 1) mt_Reader_passNumber 5 [.ref kx_reader] [] ((ab_up I kx_reader 3 ((I kx_reader 3) + 1)), L, ab_RR, n, nc, ns) res)) ∧ (¬ 3 ≤ ((I kx_reader 3) - (I kx_reader 5)) → (ab_E w (d + 1) mt_Reader_passNumber 5 [.ref kx_reader] [] ((ab_up (ab_up I kx_reader 6 ((((I kx_reader 6) * 10) + (I kx_tape (I kx_reader 3).toNatClampNeg)) - 48)) kx_reader 3 ((I kx_reader 3) + 1)), L, ab_RR, n, nc, ns) res))))))))))) : ab_E w (d + 1) mt_Reader_passNumber 5 [.ref kx_reader] [] (I, L, ab_RR, n, nc, ns) res := by
  refine ab_aload_n (i := 0) d_Reader_passNumber_5 rfl rfl ?_
  refine ab_getI (ci := 4) (k := 3) d_Reader_passNumber_6 v_770 rfl (by decide) (by decide) rfl ?_
  refine ab_aload_n (i := 0) d_Reader_passNumber_9 rfl rfl ?_
  refine ab_getI (ci := 4) (k := 1) d_Reader_passNumber_10 v_768 rfl (by decide) (by decide) rfl ?_
  refine ab_icmp_ge (tgt := 77) d_Reader_passNumber_13 (by decide) (fun c1 => ?_) (fun c1 => ?_)
  · have h := h.1 c1
    exact ab_vret d_Reader_passNumber_77 rfl h
  · have h := h.2 c1
    refine ab_aload_n (i := 0) d_Reader_passNumber_16 rfl rfl ?_
    refine ab_aload_n (i := 0) d_Reader_passNumber_17 rfl rfl ?_
    refine ab_getI (ci := 4) (k := 3) d_Reader_passNumber_18 v_770 rfl (by decide) (by decide) rfl ?_
    have g3 := h.1; have h := h.2
    by_cases c4 : (I kx_tape (I kx_reader 3).toNatClampNeg) < 48
    · have h := h.1 c4
      refine ab_callV (me2 := mt_Reader_isDigit) (b := kx_reader) (as := [.int (I kx_reader 3)]) (st := []) (rv := (some (.int 0))) (M2 := (I, L, ab_RR, n, nc, ns)) d_Reader_passNumber_21 ce_Reader_isDigit v_816 v_818 v_17 (by decide) rfl (Nat.le_of_ble_eq_true rfl) (cx_Reader_isDigit_0 (I kx_reader 3) hT g3 c4) (Nat.le_refl _) (Nat.le_refl _) hc hs (fun j h9 => by cases h9) (fun _ _ => rfl) ?_
      show ab_E w (d + 1) mt_Reader_passNumber 24 [.ref kx_reader] [.int 0] (I, L, ab_RR, n, nc, ns) res
      refine ab_if_eq (tgt := 77) d_Reader_passNumber_24 (by decide) (fun _ => ?_) (fun c9 => absurd (show (0 : Int32) = 0 from by decide) c9)
      exact ab_vret d_Reader_passNumber_77 rfl h
    · have h := h.2 c4
      by_cases c5 : 57 < (I kx_tape (I kx_reader 3).toNatClampNeg)
      · have h := h.1 c5
        refine ab_callV (me2 := mt_Reader_isDigit) (b := kx_reader) (as := [.int (I kx_reader 3)]) (st := []) (rv := (some (.int 0))) (M2 := (I, L, ab_RR, n, nc, ns)) d_Reader_passNumber_21 ce_Reader_isDigit v_816 v_818 v_17 (by decide) rfl (Nat.le_of_ble_eq_true rfl) (cx_Reader_isDigit_1 (I kx_reader 3) hT g3 c4 g3 c5) (Nat.le_refl _) (Nat.le_refl _) hc hs (fun j h9 => by cases h9) (fun _ _ => rfl) ?_
        show ab_E w (d + 1) mt_Reader_passNumber 24 [.ref kx_reader] [.int 0] (I, L, ab_RR, n, nc, ns) res
        refine ab_if_eq (tgt := 77) d_Reader_passNumber_24 (by decide) (fun _ => ?_) (fun c9 => absurd (show (0 : Int32) = 0 from by decide) c9)
        exact ab_vret d_Reader_passNumber_77 rfl h
      · have h := h.2 c5
        refine ab_callV (me2 := mt_Reader_isDigit) (b := kx_reader) (as := [.int (I kx_reader 3)]) (st := []) (rv := (some (.int 1))) (M2 := (I, L, ab_RR, n, nc, ns)) d_Reader_passNumber_21 ce_Reader_isDigit v_816 v_818 v_17 (by decide) rfl (Nat.le_of_ble_eq_true rfl) (cx_Reader_isDigit_2 (I kx_reader 3) hT g3 c4 g3 c5) (Nat.le_refl _) (Nat.le_refl _) hc hs (fun j h9 => by cases h9) (fun _ _ => rfl) ?_
        show ab_E w (d + 1) mt_Reader_passNumber 24 [.ref kx_reader] [.int 1] (I, L, ab_RR, n, nc, ns) res
        refine ab_if_eq (tgt := 77) d_Reader_passNumber_24 (by decide) (fun c9 => absurd c9 (show ¬ (1 : Int32) = 0 from by decide)) (fun _ => ?_)
        refine ab_aload_n (i := 0) d_Reader_passNumber_27 rfl rfl ?_
        refine ab_getI (ci := 4) (k := 3) d_Reader_passNumber_28 v_770 rfl (by decide) (by decide) rfl ?_
        refine ab_aload_n (i := 0) d_Reader_passNumber_31 rfl rfl ?_
        refine ab_getI (ci := 4) (k := 5) d_Reader_passNumber_32 v_772 rfl (by decide) (by decide) rfl ?_
        refine ab_isub d_Reader_passNumber_35 ?_
        refine ab_iconst (v := 3) d_Reader_passNumber_36 rfl ?_
        refine ab_icmp_ge (tgt := 64) d_Reader_passNumber_37 (by decide) (fun c6 => ?_) (fun c6 => ?_)
        · have h := h.1 c6
          refine ab_aload_n (i := 0) d_Reader_passNumber_64 rfl rfl ?_
          refine ab_dupr d_Reader_passNumber_65 ?_
          refine ab_getI (ci := 4) (k := 3) d_Reader_passNumber_66 v_770 rfl (by decide) (by decide) rfl ?_
          refine ab_iconst (v := 1) d_Reader_passNumber_69 rfl ?_
          refine ab_iadd d_Reader_passNumber_70 ?_
          refine ab_putI (ci := 4) (k := 3) d_Reader_passNumber_71 v_770 rfl (by decide) (by decide) rfl (Or.inl rfl) rfl rfl ?_
          refine ab_goto (tgt := 5) d_Reader_passNumber_74 (by decide) ?_
          exact h
        · have h := h.2 c6
          refine ab_aload_n (i := 0) d_Reader_passNumber_40 rfl rfl ?_
          refine ab_aload_n (i := 0) d_Reader_passNumber_41 rfl rfl ?_
          refine ab_getI (ci := 4) (k := 6) d_Reader_passNumber_42 v_773 rfl (by decide) (by decide) rfl ?_
          refine ab_bipush (v := 10) d_Reader_passNumber_45 rfl ?_
          refine ab_imul d_Reader_passNumber_47 ?_
          refine ab_aload_n (i := 0) d_Reader_passNumber_48 rfl rfl ?_
          refine ab_getR (ci := 4) (k := 0) (j := kx_tape) d_Reader_passNumber_49 v_767 rfl (by decide) (by decide) rfl r_kx_reader_0 ?_
          refine ab_aload_n (i := 0) d_Reader_passNumber_52 rfl rfl ?_
          refine ab_getI (ci := 4) (k := 3) d_Reader_passNumber_53 v_770 rfl (by decide) (by decide) rfl ?_
          refine ab_bald d_Reader_passNumber_56 rfl rfl g3 ?_
          refine ab_iadd d_Reader_passNumber_57 ?_
          refine ab_bipush (v := 48) d_Reader_passNumber_58 rfl ?_
          refine ab_isub d_Reader_passNumber_60 ?_
          refine ab_putI (ci := 4) (k := 6) d_Reader_passNumber_61 v_773 rfl (by decide) (by decide) rfl (Or.inl rfl) rfl rfl ?_
          refine ab_aload_n (i := 0) d_Reader_passNumber_64 rfl rfl ?_
          refine ab_dupr d_Reader_passNumber_65 ?_
          refine ab_getI (ci := 4) (k := 3) d_Reader_passNumber_66 v_770 rfl (by decide) (by decide) rfl ?_
          refine ab_iconst (v := 1) d_Reader_passNumber_69 rfl ?_
          refine ab_iadd d_Reader_passNumber_70 ?_
          refine ab_putI (ci := 4) (k := 3) d_Reader_passNumber_71 v_770 rfl (by decide) (by decide) rfl (Or.inl rfl) rfl rfl ?_
          refine ab_goto (tgt := 5) d_Reader_passNumber_74 (by decide) ?_
          exact h
theorem r_Reader_passWord_0 {w : ab_Wd} {d n nc ns : Nat} {I : Nat → Nat → Int32} {L : Nat → Nat → Int64} {res : ab_Re} (hT : w.1.stackTraces = false)  (hc : nc ≤ res.2.2.2.2.2.1) (hs : ns ≤ res.2.2.2.2.2.2)
    (h : (((I kx_reader 1) ≤ (I kx_reader 3) → (res = (.inl none, (I, L, ab_RR, n, nc, ns)))) ∧ (¬ (I kx_reader 1) ≤ (I kx_reader 3) → ((vp_in (I kx_reader 3) 700) ∧ (((I kx_tape (I kx_reader 3).toNatClampNeg) < 97 → (res = (.inl none, (I, L, ab_RR, n, nc, ns)))) ∧ (¬ (I kx_tape (I kx_reader 3).toNatClampNeg) < 97 → ((122 < (I kx_tape (I kx_reader 3).toNatClampNeg) → (res = (.inl none, (I, L, ab_RR, n, nc, ns)))) ∧ (¬ 122 < (I kx_tape (I kx_reader 3).toNatClampNeg) → (ab_E w (d + 1) mt_Reader_passWord 0 [.ref kx_reader] [] ((ab_up I kx_reader 3 ((I kx_reader 3) + 1)), L, ab_RR, n, nc, ns) res))))))))) : ab_E w (d + 1) mt_Reader_passWord 0 [.ref kx_reader] [] (I, L, ab_RR, n, nc, ns) res := by
  refine ab_aload_n (i := 0) d_Reader_passWord_0 rfl rfl ?_
  refine ab_getI (ci := 4) (k := 3) d_Reader_passWord_1 v_770 rfl (by decide) (by decide) rfl ?_
  refine ab_aload_n (i := 0) d_Reader_passWord_4 rfl rfl ?_
  refine ab_getI (ci := 4) (k := 1) d_Reader_passWord_5 v_768 rfl (by decide) (by decide) rfl ?_
  refine ab_icmp_ge (tgt := 35) d_Reader_passWord_8 (by decide) (fun c1 => ?_) (fun c1 => ?_)
  · have h := h.1 c1
    exact ab_vret d_Reader_passWord_35 rfl h
  · have h := h.2 c1
    refine ab_aload_n (i := 0) d_Reader_passWord_11 rfl rfl ?_
    refine ab_aload_n (i := 0) d_Reader_passWord_12 rfl rfl ?_
    refine ab_getI (ci := 4) (k := 3) d_Reader_passWord_13 v_770 rfl (by decide) (by decide) rfl ?_
    have g3 := h.1; have h := h.2
    by_cases c4 : (I kx_tape (I kx_reader 3).toNatClampNeg) < 97
    · have h := h.1 c4
      refine ab_callV (me2 := mt_Reader_isLetter) (b := kx_reader) (as := [.int (I kx_reader 3)]) (st := []) (rv := (some (.int 0))) (M2 := (I, L, ab_RR, n, nc, ns)) d_Reader_passWord_16 ce_Reader_isLetter v_808 v_810 v_15 (by decide) rfl (Nat.le_of_ble_eq_true rfl) (cx_Reader_isLetter_0 (I kx_reader 3) hT g3 c4) (Nat.le_refl _) (Nat.le_refl _) hc hs (fun j h9 => by cases h9) (fun _ _ => rfl) ?_
      show ab_E w (d + 1) mt_Reader_passWord 19 [.ref kx_reader] [.int 0] (I, L, ab_RR, n, nc, ns) res
      refine ab_if_eq (tgt := 35) d_Reader_passWord_19 (by decide) (fun _ => ?_) (fun c9 => absurd (show (0 : Int32) = 0 from by decide) c9)
      exact ab_vret d_Reader_passWord_35 rfl h
    · have h := h.2 c4
      by_cases c5 : 122 < (I kx_tape (I kx_reader 3).toNatClampNeg)
      · have h := h.1 c5
        refine ab_callV (me2 := mt_Reader_isLetter) (b := kx_reader) (as := [.int (I kx_reader 3)]) (st := []) (rv := (some (.int 0))) (M2 := (I, L, ab_RR, n, nc, ns)) d_Reader_passWord_16 ce_Reader_isLetter v_808 v_810 v_15 (by decide) rfl (Nat.le_of_ble_eq_true rfl) (cx_Reader_isLetter_1 (I kx_reader 3) hT g3 c4 g3 c5) (Nat.le_refl _) (Nat.le_refl _) hc hs (fun j h9 => by cases h9) (fun _ _ => rfl) ?_
        show ab_E w (d + 1) mt_Reader_passWord 19 [.ref kx_reader] [.int 0] (I, L, ab_RR, n, nc, ns) res
        refine ab_if_eq (tgt := 35) d_Reader_passWord_19 (by decide) (fun _ => ?_) (fun c9 => absurd (show (0 : Int32) = 0 from by decide) c9)
        exact ab_vret d_Reader_passWord_35 rfl h
      · have h := h.2 c5
        refine ab_callV (me2 := mt_Reader_isLetter) (b := kx_reader) (as := [.int (I kx_reader 3)]) (st := []) (rv := (some (.int 1))) (M2 := (I, L, ab_RR, n, nc, ns)) d_Reader_passWord_16 ce_Reader_isLetter v_808 v_810 v_15 (by decide) rfl (Nat.le_of_ble_eq_true rfl) (cx_Reader_isLetter_2 (I kx_reader 3) hT g3 c4 g3 c5) (Nat.le_refl _) (Nat.le_refl _) hc hs (fun j h9 => by cases h9) (fun _ _ => rfl) ?_
        show ab_E w (d + 1) mt_Reader_passWord 19 [.ref kx_reader] [.int 1] (I, L, ab_RR, n, nc, ns) res
        refine ab_if_eq (tgt := 35) d_Reader_passWord_19 (by decide) (fun c9 => absurd c9 (show ¬ (1 : Int32) = 0 from by decide)) (fun _ => ?_)
        refine ab_aload_n (i := 0) d_Reader_passWord_22 rfl rfl ?_
        refine ab_dupr d_Reader_passWord_23 ?_
        refine ab_getI (ci := 4) (k := 3) d_Reader_passWord_24 v_770 rfl (by decide) (by decide) rfl ?_
        refine ab_iconst (v := 1) d_Reader_passWord_27 rfl ?_
        refine ab_iadd d_Reader_passWord_28 ?_
        refine ab_putI (ci := 4) (k := 3) d_Reader_passWord_29 v_770 rfl (by decide) (by decide) rfl (Or.inl rfl) rfl rfl ?_
        refine ab_goto (tgt := 0) d_Reader_passWord_32 (by decide) ?_
        exact h
