theorem r_K_tellPrice_0 {w : ab_Wd} {d n nc ns : Nat} {I : Nat → Nat → Int32} {L : Nat → Nat → Int64} {res : ab_Re} (hT : w.1.stackTraces = false) (v1 : Int32) (v2 : Int32) (hc : nc ≤ res.2.2.2.2.2.1) (hs : ns ≤ res.2.2.2.2.2.2)
    (h : (vp_in v1 24) ∧ ((¬ v2 = (I kx_now_cables_price v1.toNatClampNeg) → (∃ (I4 : Nat → Nat → Int32), ab_C w d mt_Cables_sort [.ref kx_now_cables] ((ab_up I kx_now_cables_price v1.toNatClampNeg v2), L, ab_RR, n, nc, ns) (.inl none, (I4, L, ab_RR, n, nc, ns)) ∧ ((v2 ≤ (I kx_now_cables_price v1.toNatClampNeg) → (∃ (I7 : Nat → Nat → Int32), ab_C w d mt_K_regrow [.ref kx, .int 2, .int v1] (I4, L, ab_RR, n, nc, ns) (.inl none, (I7, L, ab_RR, n, nc, ns)) ∧ res = (.inl none, (I7, L, ab_RR, n, nc, ns)))) ∧ (¬ v2 ≤ (I kx_now_cables_price v1.toNatClampNeg) → (∃ (I9 : Nat → Nat → Int32), ab_C w d mt_K_regrow [.ref kx, .int 1, .int v1] (I4, L, ab_RR, n, nc, ns) (.inl none, (I9, L, ab_RR, n, nc, ns)) ∧ res = (.inl none, (I9, L, ab_RR, n, nc, ns))))))) ∧ (v2 = (I kx_now_cables_price v1.toNatClampNeg) → (res = (.inl none, (I, L, ab_RR, n, nc, ns)))))) : ab_E w (d + 1) mt_K_tellPrice 0 [.ref kx, .int v1, .int v2, .null] [] (I, L, ab_RR, n, nc, ns) res := by
  refine ab_aload_n (i := 0) d_K_tellPrice_0 rfl rfl ?_
  refine ab_getR (ci := 10) (k := 3) (j := kx_now) d_K_tellPrice_1 v_475 rfl (by decide) (by decide) rfl r_kx_3 ?_
  refine ab_getR (ci := 6) (k := 0) (j := kx_now_cables) d_K_tellPrice_4 v_294 rfl (by decide) (by decide) rfl r_kx_now_0 ?_
  refine ab_getR (ci := 1) (k := 5) (j := kx_now_cables_price) d_K_tellPrice_7 v_224 rfl (by decide) (by decide) rfl r_kx_now_cables_5 ?_
  refine ab_iload_n (i := 1) d_K_tellPrice_10 rfl rfl ?_
  have g1 := h.1; have h := h.2
  refine ab_iald d_K_tellPrice_11 rfl rfl g1 ?_
  refine ab_istore_n (i := 3) d_K_tellPrice_12 rfl (by decide) (Or.inr rfl) ?_
  refine ab_iload_n (i := 2) d_K_tellPrice_13 rfl rfl ?_
  refine ab_iload_n (i := 3) d_K_tellPrice_14 rfl rfl ?_
  refine ab_icmp_ne (tgt := 19) d_K_tellPrice_15 (by decide) (fun c2 => ?_) (fun c2 => ?_)
  · have h := h.1 c2
    refine ab_aload_n (i := 0) d_K_tellPrice_19 rfl rfl ?_
    refine ab_getR (ci := 10) (k := 3) (j := kx_now) d_K_tellPrice_20 v_475 rfl (by decide) (by decide) rfl r_kx_3 ?_
    refine ab_getR (ci := 6) (k := 0) (j := kx_now_cables) d_K_tellPrice_23 v_294 rfl (by decide) (by decide) rfl r_kx_now_0 ?_
    refine ab_getR (ci := 1) (k := 5) (j := kx_now_cables_price) d_K_tellPrice_26 v_224 rfl (by decide) (by decide) rfl r_kx_now_cables_5 ?_
    refine ab_iload_n (i := 1) d_K_tellPrice_29 rfl rfl ?_
    refine ab_iload_n (i := 2) d_K_tellPrice_30 rfl rfl ?_
    refine ab_iast d_K_tellPrice_31 rfl rfl g1 ?_
    refine ab_aload_n (i := 0) d_K_tellPrice_32 rfl rfl ?_
    refine ab_getR (ci := 10) (k := 3) (j := kx_now) d_K_tellPrice_33 v_475 rfl (by decide) (by decide) rfl r_kx_3 ?_
    refine ab_getR (ci := 6) (k := 0) (j := kx_now_cables) d_K_tellPrice_36 v_294 rfl (by decide) (by decide) rfl r_kx_now_0 ?_
    obtain ⟨I4, hC, h⟩ := h
    refine ab_callV (me2 := mt_Cables_sort) (b := kx_now_cables) (as := []) (st := []) (rv := none) (M2 := (I4, L, ab_RR, n, nc, ns)) d_K_tellPrice_39 ce_Cables_sort v_591 v_592 v_593 (by decide) rfl (Nat.le_of_ble_eq_true rfl) hC (Nat.le_refl _) (Nat.le_refl _) hc hs (fun j h9 => by cases h9) (fun _ _ => rfl) ?_
    show ab_E w (d + 1) mt_K_tellPrice 42 [.ref kx, .int v1, .int v2, .int (I kx_now_cables_price v1.toNatClampNeg)] [] (I4, L, ab_RR, n, nc, ns) res
    refine ab_aload_n (i := 0) d_K_tellPrice_42 rfl rfl ?_
    refine ab_iload_n (i := 2) d_K_tellPrice_43 rfl rfl ?_
    refine ab_iload_n (i := 3) d_K_tellPrice_44 rfl rfl ?_
    refine ab_icmp_le (tgt := 52) d_K_tellPrice_45 (by decide) (fun c5 => ?_) (fun c5 => ?_)
    · have h := h.1 c5
      refine ab_iconst (v := 2) d_K_tellPrice_52 rfl ?_
      refine ab_iload_n (i := 1) d_K_tellPrice_53 rfl rfl ?_
      obtain ⟨I7, hC, h⟩ := h
      refine ab_callV (me2 := mt_K_regrow) (b := kx) (as := [.int 2, .int v1]) (st := []) (rv := none) (M2 := (I7, L, ab_RR, n, nc, ns)) d_K_tellPrice_54 ce_K_regrow v_595 v_597 v_12 (by decide) rfl (Nat.le_of_ble_eq_true rfl) hC (Nat.le_refl _) (Nat.le_refl _) hc hs (fun j h9 => by cases h9) (fun _ _ => rfl) ?_
      show ab_E w (d + 1) mt_K_tellPrice 57 [.ref kx, .int v1, .int v2, .int (I kx_now_cables_price v1.toNatClampNeg)] [] (I7, L, ab_RR, n, nc, ns) res
      exact ab_vret d_K_tellPrice_57 rfl h
    · have h := h.2 c5
      refine ab_iconst (v := 1) d_K_tellPrice_48 rfl ?_
      refine ab_goto (tgt := 53) d_K_tellPrice_49 (by decide) ?_
      refine ab_iload_n (i := 1) d_K_tellPrice_53 rfl rfl ?_
      obtain ⟨I9, hC, h⟩ := h
      refine ab_callV (me2 := mt_K_regrow) (b := kx) (as := [.int 1, .int v1]) (st := []) (rv := none) (M2 := (I9, L, ab_RR, n, nc, ns)) d_K_tellPrice_54 ce_K_regrow v_595 v_597 v_12 (by decide) rfl (Nat.le_of_ble_eq_true rfl) hC (Nat.le_refl _) (Nat.le_refl _) hc hs (fun j h9 => by cases h9) (fun _ _ => rfl) ?_
      show ab_E w (d + 1) mt_K_tellPrice 57 [.ref kx, .int v1, .int v2, .int (I kx_now_cables_price v1.toNatClampNeg)] [] (I9, L, ab_RR, n, nc, ns) res
      exact ab_vret d_K_tellPrice_57 rfl h
  · have h := h.2 c2
    exact ab_vret d_K_tellPrice_18 rfl h
theorem cx_Swaps_tell_0 {w : ab_Wd} {d n nc ns : Nat} {I : Nat → Nat → Int32} {L : Nat → Nat → Int64} (v1 : Int32) (v2 : Int32) (v3 : Int32) (v4 : Int32) (v5 : Int32) (hT : w.1.stackTraces = false) (e1 : (vp_in ((I kx_now_swaps 1) &&& 1023) 1024)) : ab_C w d mt_Swaps_tell [.ref kx_now_swaps, .int v1, .int v2, .int v3, .int v4, .int v5] (I, L, ab_RR, n, nc, ns) (.inl none, ((ab_up (ab_up I kx_now_swaps_rows ((I kx_now_swaps 1) &&& 1023).toNatClampNeg (((((v5 <<< ((18 : Int32) &&& 31)) ||| (v1 <<< ((15 : Int32) &&& 31))) ||| (v2 <<< ((10 : Int32) &&& 31))) ||| ((v3 + 1) <<< ((5 : Int32) &&& 31))) ||| (v4 + 1))) kx_now_swaps 1 ((I kx_now_swaps 1) + 1)), L, ab_RR, n, nc, ns)) := by
  refine ab_C_of (by decide) rfl (Nat.le_of_ble_eq_true rfl) hT ?_
  have hc := Nat.le_refl nc
  have hs := Nat.le_refl ns
  refine ab_aload_n (i := 0) d_Swaps_tell_0 rfl rfl ?_
  refine ab_getR (ci := 7) (k := 0) (j := kx_now_swaps_rows) d_Swaps_tell_1 v_258 rfl (by decide) (by decide) rfl r_kx_now_swaps_0 ?_
  refine ab_aload_n (i := 0) d_Swaps_tell_4 rfl rfl ?_
  refine ab_getI (ci := 7) (k := 1) d_Swaps_tell_5 v_259 rfl (by decide) (by decide) rfl ?_
  refine ab_sipush (v := 1023) d_Swaps_tell_8 rfl ?_
  refine ab_iand d_Swaps_tell_11 ?_
  refine ab_iload (i := 5) d_Swaps_tell_12 rfl ?_
  refine ab_bipush (v := 18) d_Swaps_tell_14 rfl ?_
  refine ab_ishl d_Swaps_tell_16 ?_
  refine ab_iload_n (i := 1) d_Swaps_tell_17 rfl rfl ?_
  refine ab_bipush (v := 15) d_Swaps_tell_18 rfl ?_
  refine ab_ishl d_Swaps_tell_20 ?_
  refine ab_ior d_Swaps_tell_21 ?_
  refine ab_iload_n (i := 2) d_Swaps_tell_22 rfl rfl ?_
  refine ab_bipush (v := 10) d_Swaps_tell_23 rfl ?_
  refine ab_ishl d_Swaps_tell_25 ?_
  refine ab_ior d_Swaps_tell_26 ?_
  refine ab_iload_n (i := 3) d_Swaps_tell_27 rfl rfl ?_
  refine ab_iconst (v := 1) d_Swaps_tell_28 rfl ?_
  refine ab_iadd d_Swaps_tell_29 ?_
  refine ab_iconst (v := 5) d_Swaps_tell_30 rfl ?_
  refine ab_ishl d_Swaps_tell_31 ?_
  refine ab_ior d_Swaps_tell_32 ?_
  refine ab_iload (i := 4) d_Swaps_tell_33 rfl ?_
  refine ab_iconst (v := 1) d_Swaps_tell_35 rfl ?_
  refine ab_iadd d_Swaps_tell_36 ?_
  refine ab_ior d_Swaps_tell_37 ?_
  refine ab_iast d_Swaps_tell_38 rfl rfl e1 ?_
  refine ab_aload_n (i := 0) d_Swaps_tell_39 rfl rfl ?_
  refine ab_dupr d_Swaps_tell_40 ?_
  refine ab_getI (ci := 7) (k := 1) d_Swaps_tell_41 v_259 rfl (by decide) (by decide) rfl ?_
  refine ab_iconst (v := 1) d_Swaps_tell_44 rfl ?_
  refine ab_iadd d_Swaps_tell_45 ?_
  refine ab_putI (ci := 7) (k := 1) d_Swaps_tell_46 v_259 rfl (by decide) (by decide) rfl (Or.inl rfl) rfl rfl ?_
  exact ab_vret d_Swaps_tell_49 rfl rfl
theorem r_K_regrow_0 {w : ab_Wd} {d n nc ns : Nat} {I : Nat → Nat → Int32} {L : Nat → Nat → Int64} {res : ab_Re} (hT : w.1.stackTraces = false) (v1 : Int32) (v2 : Int32) (hc : nc ≤ res.2.2.2.2.2.1) (hs : ns ≤ res.2.2.2.2.2.2)
    (h : ∃ (I2 : Nat → Nat → Int32), ab_C w d mt_Forest_grow [.ref kx_forest, .ref kx_now_cables, .int (I kx_now_cables 2)] (I, L, ab_RR, n, nc, ns) (.inl none, (I2, L, ab_RR, n, nc, ns)) ∧ ∃ (r3 : Int32), ab_C w d mt_K_lowestOf [.int ((I kx_forest 2) &&& ((I2 kx_forest 2) ^^^ (-1)))] (I2, L, ab_RR, n, nc, ns) (.inl (some (.int r3)), (I2, L, ab_RR, n, nc, ns)) ∧ ∃ (r4 : Int32), ab_C w d mt_K_lowestOf [.int ((I2 kx_forest 2) &&& ((I kx_forest 2) ^^^ (-1)))] (I2, L, ab_RR, n, nc, ns) (.inl (some (.int r4)), (I2, L, ab_RR, n, nc, ns)) ∧ ((¬ r3 = (-1) → ((vp_in ((I2 kx_now_swaps 1) &&& 1023) 1024) ∧ res = (.inl none, ((ab_up (ab_up I2 kx_now_swaps_rows ((I2 kx_now_swaps 1) &&& 1023).toNatClampNeg ((((((I2 kx_forest 3) <<< ((18 : Int32) &&& 31)) ||| (v1 <<< ((15 : Int32) &&& 31))) ||| (v2 <<< ((10 : Int32) &&& 31))) ||| ((r3 + 1) <<< ((5 : Int32) &&& 31))) ||| (r4 + 1))) kx_now_swaps 1 ((I2 kx_now_swaps 1) + 1)), L, ab_RR, n, nc, ns)))) ∧ (r3 = (-1) → ((r4 = (-1) → (res = (.inl none, (I2, L, ab_RR, n, nc, ns)))) ∧ (¬ r4 = (-1) → ((vp_in ((I2 kx_now_swaps 1) &&& 1023) 1024) ∧ res = (.inl none, ((ab_up (ab_up I2 kx_now_swaps_rows ((I2 kx_now_swaps 1) &&& 1023).toNatClampNeg ((((((I2 kx_forest 3) <<< ((18 : Int32) &&& 31)) ||| (v1 <<< ((15 : Int32) &&& 31))) ||| (v2 <<< ((10 : Int32) &&& 31))) ||| ((r3 + 1) <<< ((5 : Int32) &&& 31))) ||| (r4 + 1))) kx_now_swaps 1 ((I2 kx_now_swaps 1) + 1)), L, ab_RR, n, nc, ns)))))))) : ab_E w (d + 1) mt_K_regrow 0 [.ref kx, .int v1, .int v2, .null, .null, .null] [] (I, L, ab_RR, n, nc, ns) res := by
  refine ab_aload_n (i := 0) d_K_regrow_0 rfl rfl ?_
  refine ab_getR (ci := 10) (k := 6) (j := kx_forest) d_K_regrow_1 v_478 rfl (by decide) (by decide) rfl r_kx_6 ?_
  refine ab_getI (ci := 2) (k := 2) d_K_regrow_4 v_335 rfl (by decide) (by decide) rfl ?_
  refine ab_istore_n (i := 3) d_K_regrow_7 rfl (by decide) (Or.inr rfl) ?_
  refine ab_aload_n (i := 0) d_K_regrow_8 rfl rfl ?_
  refine ab_getR (ci := 10) (k := 6) (j := kx_forest) d_K_regrow_9 v_478 rfl (by decide) (by decide) rfl r_kx_6 ?_
  refine ab_aload_n (i := 0) d_K_regrow_12 rfl rfl ?_
  refine ab_getR (ci := 10) (k := 3) (j := kx_now) d_K_regrow_13 v_475 rfl (by decide) (by decide) rfl r_kx_3 ?_
  refine ab_getR (ci := 6) (k := 0) (j := kx_now_cables) d_K_regrow_16 v_294 rfl (by decide) (by decide) rfl r_kx_now_0 ?_
  refine ab_aload_n (i := 0) d_K_regrow_19 rfl rfl ?_
  refine ab_getR (ci := 10) (k := 3) (j := kx_now) d_K_regrow_20 v_475 rfl (by decide) (by decide) rfl r_kx_3 ?_
  refine ab_getR (ci := 6) (k := 0) (j := kx_now_cables) d_K_regrow_23 v_294 rfl (by decide) (by decide) rfl r_kx_now_0 ?_
  refine ab_getI (ci := 1) (k := 2) d_K_regrow_26 v_202 rfl (by decide) (by decide) rfl ?_
  obtain ⟨I2, hC, h⟩ := h
  refine ab_callV (me2 := mt_Forest_grow) (b := kx_forest) (as := [.ref kx_now_cables, .int (I kx_now_cables 2)]) (st := []) (rv := none) (M2 := (I2, L, ab_RR, n, nc, ns)) d_K_regrow_29 ce_Forest_grow v_440 v_441 v_442 (by decide) rfl (Nat.le_of_ble_eq_true rfl) hC (Nat.le_refl _) (Nat.le_refl _) hc hs (fun j h9 => by cases h9) (fun _ _ => rfl) ?_
  show ab_E w (d + 1) mt_K_regrow 32 [.ref kx, .int v1, .int v2, .int (I kx_forest 2), .null, .null] [] (I2, L, ab_RR, n, nc, ns) res
  refine ab_iload_n (i := 3) d_K_regrow_32 rfl rfl ?_
  refine ab_aload_n (i := 0) d_K_regrow_33 rfl rfl ?_
  refine ab_getR (ci := 10) (k := 6) (j := kx_forest) d_K_regrow_34 v_478 rfl (by decide) (by decide) rfl r_kx_6 ?_
  refine ab_getI (ci := 2) (k := 2) d_K_regrow_37 v_335 rfl (by decide) (by decide) rfl ?_
  refine ab_iconst (v := (-1)) d_K_regrow_40 rfl ?_
  refine ab_ixor d_K_regrow_41 ?_
  refine ab_iand d_K_regrow_42 ?_
  obtain ⟨r3, hC, h⟩ := h
  refine ab_callS (me2 := mt_K_lowestOf) (as := [.int ((I kx_forest 2) &&& ((I2 kx_forest 2) ^^^ (-1)))]) (st := []) (rv := (some (.int r3))) (M2 := (I2, L, ab_RR, n, nc, ns)) d_K_regrow_43 ce_K_lowestOf ⟨v_600, Or.inl v_599⟩ (Nat.le_of_ble_eq_true rfl) hC (Nat.le_refl _) (Nat.le_refl _) hc hs (fun j h9 => by cases h9) (fun _ _ => rfl) ?_
  show ab_E w (d + 1) mt_K_regrow 46 [.ref kx, .int v1, .int v2, .int (I kx_forest 2), .null, .null] [.int r3] (I2, L, ab_RR, n, nc, ns) res
  refine ab_istore (i := 4) d_K_regrow_46 (by decide) (Or.inr rfl) ?_
  refine ab_aload_n (i := 0) d_K_regrow_48 rfl rfl ?_
  refine ab_getR (ci := 10) (k := 6) (j := kx_forest) d_K_regrow_49 v_478 rfl (by decide) (by decide) rfl r_kx_6 ?_
  refine ab_getI (ci := 2) (k := 2) d_K_regrow_52 v_335 rfl (by decide) (by decide) rfl ?_
  refine ab_iload_n (i := 3) d_K_regrow_55 rfl rfl ?_
  refine ab_iconst (v := (-1)) d_K_regrow_56 rfl ?_
  refine ab_ixor d_K_regrow_57 ?_
  refine ab_iand d_K_regrow_58 ?_
  obtain ⟨r4, hC, h⟩ := h
  refine ab_callS (me2 := mt_K_lowestOf) (as := [.int ((I2 kx_forest 2) &&& ((I kx_forest 2) ^^^ (-1)))]) (st := []) (rv := (some (.int r4))) (M2 := (I2, L, ab_RR, n, nc, ns)) d_K_regrow_59 ce_K_lowestOf ⟨v_600, Or.inl v_599⟩ (Nat.le_of_ble_eq_true rfl) hC (Nat.le_refl _) (Nat.le_refl _) hc hs (fun j h9 => by cases h9) (fun _ _ => rfl) ?_
  show ab_E w (d + 1) mt_K_regrow 62 [.ref kx, .int v1, .int v2, .int (I kx_forest 2), .int r3, .null] [.int r4] (I2, L, ab_RR, n, nc, ns) res
  refine ab_istore (i := 5) d_K_regrow_62 (by decide) (Or.inr rfl) ?_
  refine ab_iload (i := 4) d_K_regrow_64 rfl ?_
  refine ab_iconst (v := (-1)) d_K_regrow_66 rfl ?_
  refine ab_icmp_ne (tgt := 76) d_K_regrow_67 (by decide) (fun c5 => ?_) (fun c5 => ?_)
  · have h := h.1 c5
    refine ab_aload_n (i := 0) d_K_regrow_76 rfl rfl ?_
    refine ab_getR (ci := 10) (k := 3) (j := kx_now) d_K_regrow_77 v_475 rfl (by decide) (by decide) rfl r_kx_3 ?_
    refine ab_getR (ci := 6) (k := 1) (j := kx_now_swaps) d_K_regrow_80 v_296 rfl (by decide) (by decide) rfl r_kx_now_1 ?_
    refine ab_iload_n (i := 1) d_K_regrow_83 rfl rfl ?_
    refine ab_iload_n (i := 2) d_K_regrow_84 rfl rfl ?_
    refine ab_iload (i := 4) d_K_regrow_85 rfl ?_
    refine ab_iload (i := 5) d_K_regrow_87 rfl ?_
    refine ab_aload_n (i := 0) d_K_regrow_89 rfl rfl ?_
    refine ab_getR (ci := 10) (k := 6) (j := kx_forest) d_K_regrow_90 v_478 rfl (by decide) (by decide) rfl r_kx_6 ?_
    refine ab_getI (ci := 2) (k := 3) d_K_regrow_93 v_337 rfl (by decide) (by decide) rfl ?_
    have g8 := h.1; have h := h.2
    refine ab_callV (me2 := mt_Swaps_tell) (b := kx_now_swaps) (as := [.int v1, .int v2, .int r3, .int r4, .int (I2 kx_forest 3)]) (st := []) (rv := none) (M2 := ((ab_up (ab_up I2 kx_now_swaps_rows ((I2 kx_now_swaps 1) &&& 1023).toNatClampNeg ((((((I2 kx_forest 3) <<< ((18 : Int32) &&& 31)) ||| (v1 <<< ((15 : Int32) &&& 31))) ||| (v2 <<< ((10 : Int32) &&& 31))) ||| ((r3 + 1) <<< ((5 : Int32) &&& 31))) ||| (r4 + 1))) kx_now_swaps 1 ((I2 kx_now_swaps 1) + 1)), L, ab_RR, n, nc, ns)) d_K_regrow_96 ce_Swaps_tell v_602 v_603 v_604 (by decide) rfl (Nat.le_of_ble_eq_true rfl) (cx_Swaps_tell_0 v1 v2 r3 r4 (I2 kx_forest 3) hT g8) (Nat.le_refl _) (Nat.le_refl _) hc hs (fun j h9 => by cases h9) (fun _ _ => rfl) ?_
    show ab_E w (d + 1) mt_K_regrow 99 [.ref kx, .int v1, .int v2, .int (I kx_forest 2), .int r3, .int r4] [] ((ab_up (ab_up I2 kx_now_swaps_rows ((I2 kx_now_swaps 1) &&& 1023).toNatClampNeg ((((((I2 kx_forest 3) <<< ((18 : Int32) &&& 31)) ||| (v1 <<< ((15 : Int32) &&& 31))) ||| (v2 <<< ((10 : Int32) &&& 31))) ||| ((r3 + 1) <<< ((5 : Int32) &&& 31))) ||| (r4 + 1))) kx_now_swaps 1 ((I2 kx_now_swaps 1) + 1)), L, ab_RR, n, nc, ns) res
    exact ab_vret d_K_regrow_99 rfl h
  · have h := h.2 c5
    refine ab_iload (i := 5) d_K_regrow_70 rfl ?_
    refine ab_iconst (v := (-1)) d_K_regrow_72 rfl ?_
    refine ab_icmp_eq (tgt := 99) d_K_regrow_73 (by decide) (fun c9 => ?_) (fun c9 => ?_)
    · have h := h.1 c9
      exact ab_vret d_K_regrow_99 rfl h
    · have h := h.2 c9
      refine ab_aload_n (i := 0) d_K_regrow_76 rfl rfl ?_
      refine ab_getR (ci := 10) (k := 3) (j := kx_now) d_K_regrow_77 v_475 rfl (by decide) (by decide) rfl r_kx_3 ?_
      refine ab_getR (ci := 6) (k := 1) (j := kx_now_swaps) d_K_regrow_80 v_296 rfl (by decide) (by decide) rfl r_kx_now_1 ?_
      refine ab_iload_n (i := 1) d_K_regrow_83 rfl rfl ?_
      refine ab_iload_n (i := 2) d_K_regrow_84 rfl rfl ?_
      refine ab_iload (i := 4) d_K_regrow_85 rfl ?_
      refine ab_iload (i := 5) d_K_regrow_87 rfl ?_
      refine ab_aload_n (i := 0) d_K_regrow_89 rfl rfl ?_
      refine ab_getR (ci := 10) (k := 6) (j := kx_forest) d_K_regrow_90 v_478 rfl (by decide) (by decide) rfl r_kx_6 ?_
      refine ab_getI (ci := 2) (k := 3) d_K_regrow_93 v_337 rfl (by decide) (by decide) rfl ?_
      have g12 := h.1; have h := h.2
      refine ab_callV (me2 := mt_Swaps_tell) (b := kx_now_swaps) (as := [.int v1, .int v2, .int r3, .int r4, .int (I2 kx_forest 3)]) (st := []) (rv := none) (M2 := ((ab_up (ab_up I2 kx_now_swaps_rows ((I2 kx_now_swaps 1) &&& 1023).toNatClampNeg ((((((I2 kx_forest 3) <<< ((18 : Int32) &&& 31)) ||| (v1 <<< ((15 : Int32) &&& 31))) ||| (v2 <<< ((10 : Int32) &&& 31))) ||| ((r3 + 1) <<< ((5 : Int32) &&& 31))) ||| (r4 + 1))) kx_now_swaps 1 ((I2 kx_now_swaps 1) + 1)), L, ab_RR, n, nc, ns)) d_K_regrow_96 ce_Swaps_tell v_602 v_603 v_604 (by decide) rfl (Nat.le_of_ble_eq_true rfl) (cx_Swaps_tell_0 v1 v2 r3 r4 (I2 kx_forest 3) hT g12) (Nat.le_refl _) (Nat.le_refl _) hc hs (fun j h9 => by cases h9) (fun _ _ => rfl) ?_
      show ab_E w (d + 1) mt_K_regrow 99 [.ref kx, .int v1, .int v2, .int (I kx_forest 2), .int r3, .int r4] [] ((ab_up (ab_up I2 kx_now_swaps_rows ((I2 kx_now_swaps 1) &&& 1023).toNatClampNeg ((((((I2 kx_forest 3) <<< ((18 : Int32) &&& 31)) ||| (v1 <<< ((15 : Int32) &&& 31))) ||| (v2 <<< ((10 : Int32) &&& 31))) ||| ((r3 + 1) <<< ((5 : Int32) &&& 31))) ||| (r4 + 1))) kx_now_swaps 1 ((I2 kx_now_swaps 1) + 1)), L, ab_RR, n, nc, ns) res
      exact ab_vret d_K_regrow_99 rfl h
theorem r_K_cutOf_0 {w : ab_Wd} {d n nc ns : Nat} {I : Nat → Nat → Int32} {L : Nat → Nat → Int64} {res : ab_Re} (hT : w.1.stackTraces = false) (v1 : Int32) (hc : nc ≤ res.2.2.2.2.2.1) (hs : ns ≤ res.2.2.2.2.2.2)
    (h : (((((I kx_forest 2) >>> (v1 &&& 31)) &&& 1) = 1 → ((vp_in v1 24) ∧ ab_E w (d + 2) mt_K_cutOf 28 [.ref kx, .int v1, .int (I kx_now_cables_first v1.toNatClampNeg), .int 0, .int 0, .null] [] (I, L, ab_RR, n, nc, ns) res)) ∧ (¬ (((I kx_forest 2) >>> (v1 &&& 31)) &&& 1) = 1 → (res = (.inl (some (.int 0)), (I, L, ab_RR, n, nc, ns)))))) : ab_E w (d + 2) mt_K_cutOf 0 [.ref kx, .int v1, .null, .null, .null, .null] [] (I, L, ab_RR, n, nc, ns) res := by
  refine ab_aload_n (i := 0) d_K_cutOf_0 rfl rfl ?_
  refine ab_iload_n (i := 1) d_K_cutOf_1 rfl rfl ?_
  by_cases c2 : (((I kx_forest 2) >>> (v1 &&& 31)) &&& 1) = 1
  · have h := h.1 c2
    refine ab_callV (me2 := mt_K_isInside) (b := kx) (as := [.int v1]) (st := []) (rv := (some (.int 1))) (M2 := (I, L, ab_RR, n, nc, ns)) d_K_cutOf_2 ce_K_isInside v_944 v_946 v_30 (by decide) rfl (Nat.le_of_ble_eq_true rfl) (cx_K_isInside_1 v1 hT c2) (Nat.le_refl _) (Nat.le_refl _) hc hs (fun j h9 => by cases h9) (fun _ _ => rfl) ?_
    show ab_E w (d + 2) mt_K_cutOf 5 [.ref kx, .int v1, .null, .null, .null, .null] [.int 1] (I, L, ab_RR, n, nc, ns) res
    refine ab_if_ne (tgt := 10) d_K_cutOf_5 (by decide) (fun _ => ?_) (fun c9 => absurd c9 (show ¬ (1 : Int32) = 0 from by decide))
    refine ab_aload_n (i := 0) d_K_cutOf_10 rfl rfl ?_
    refine ab_getR (ci := 10) (k := 3) (j := kx_now) d_K_cutOf_11 v_475 rfl (by decide) (by decide) rfl r_kx_3 ?_
    refine ab_getR (ci := 6) (k := 0) (j := kx_now_cables) d_K_cutOf_14 v_294 rfl (by decide) (by decide) rfl r_kx_now_0 ?_
    refine ab_getR (ci := 1) (k := 3) (j := kx_now_cables_first) d_K_cutOf_17 v_209 rfl (by decide) (by decide) rfl r_kx_now_cables_3 ?_
    refine ab_iload_n (i := 1) d_K_cutOf_20 rfl rfl ?_
    have g3 := h.1; have h := h.2
    refine ab_iald d_K_cutOf_21 rfl rfl g3 ?_
    refine ab_istore_n (i := 2) d_K_cutOf_22 rfl (by decide) (Or.inr rfl) ?_
    refine ab_iconst (v := 0) d_K_cutOf_23 rfl ?_
    refine ab_istore_n (i := 3) d_K_cutOf_24 rfl (by decide) (Or.inr rfl) ?_
    refine ab_iconst (v := 0) d_K_cutOf_25 rfl ?_
    refine ab_istore (i := 4) d_K_cutOf_26 (by decide) (Or.inr rfl) ?_
    exact h
  · have h := h.2 c2
    refine ab_callV (me2 := mt_K_isInside) (b := kx) (as := [.int v1]) (st := []) (rv := (some (.int 0))) (M2 := (I, L, ab_RR, n, nc, ns)) d_K_cutOf_2 ce_K_isInside v_944 v_946 v_30 (by decide) rfl (Nat.le_of_ble_eq_true rfl) (cx_K_isInside_0 v1 hT c2) (Nat.le_refl _) (Nat.le_refl _) hc hs (fun j h9 => by cases h9) (fun _ _ => rfl) ?_
    show ab_E w (d + 2) mt_K_cutOf 5 [.ref kx, .int v1, .null, .null, .null, .null] [.int 0] (I, L, ab_RR, n, nc, ns) res
    refine ab_if_ne (tgt := 10) d_K_cutOf_5 (by decide) (fun c9 => absurd (show (0 : Int32) = 0 from by decide) c9) (fun _ => ?_)
    refine ab_iconst (v := 0) d_K_cutOf_8 rfl ?_
    exact ab_iret (ty := .int) d_K_cutOf_9 rfl rfl h
theorem r_K_cutOf_28 {w : ab_Wd} {d n nc ns : Nat} {I : Nat → Nat → Int32} {L : Nat → Nat → Int64} {res : ab_Re} (hT : w.1.stackTraces = false) (v1 : Int32) (v2 : Int32) (v3 : Int32) (v4 : Int32) (hc : nc ≤ res.2.2.2.2.2.1) (hs : ns ≤ res.2.2.2.2.2.2)
    (h : (((I kx_now_cables 0) ≤ v4 → (res = (.inl (some (.int v3)), (I, L, ab_RR, n, nc, ns)))) ∧ (¬ (I kx_now_cables 0) ≤ v4 → ((vp_in ((v2 * 10) + v4) 100) ∧ (((I kx_ways_span ((v2 * 10) + v4).toNatClampNeg) = (-1) → (ab_E w (d + 2) mt_K_cutOf 28 [.ref kx, .int v1, .int v2, .int v3, .int (v4 + 1), .null] [] (I, L, ab_RR, n, nc, ns) res)) ∧ (¬ (I kx_ways_span ((v2 * 10) + v4).toNatClampNeg) = (-1) → (((I kx_ways_step ((v2 * 10) + v4).toNatClampNeg) = v1 → (ab_E w (d + 2) mt_K_cutOf 28 [.ref kx, .int v1, .int v2, .int v3, .int (v4 + 1), .null] [] (I, L, ab_RR, n, nc, ns) res)) ∧ (¬ (I kx_ways_step ((v2 * 10) + v4).toNatClampNeg) = v1 → (ab_E w (d + 2) mt_K_cutOf 28 [.ref kx, .int v1, .int v2, .int (v3 ||| ((1 : Int32) <<< (v4 &&& 31))), .int (v4 + 1), .null] [] (I, L, ab_RR, n, nc, ns) res))))))))) : ab_E w (d + 2) mt_K_cutOf 28 [.ref kx, .int v1, .int v2, .int v3, .int v4, .null] [] (I, L, ab_RR, n, nc, ns) res := by
  refine ab_iload (i := 4) d_K_cutOf_28 rfl ?_
  refine ab_aload_n (i := 0) d_K_cutOf_30 rfl rfl ?_
  refine ab_getR (ci := 10) (k := 3) (j := kx_now) d_K_cutOf_31 v_475 rfl (by decide) (by decide) rfl r_kx_3 ?_
  refine ab_getR (ci := 6) (k := 0) (j := kx_now_cables) d_K_cutOf_34 v_294 rfl (by decide) (by decide) rfl r_kx_now_0 ?_
  refine ab_getI (ci := 1) (k := 0) d_K_cutOf_37 v_190 rfl (by decide) (by decide) rfl ?_
  refine ab_icmp_ge (tgt := 96) d_K_cutOf_40 (by decide) (fun c1 => ?_) (fun c1 => ?_)
  · have h := h.1 c1
    refine ab_iload_n (i := 3) d_K_cutOf_96 rfl rfl ?_
    exact ab_iret (ty := .int) d_K_cutOf_97 rfl rfl h
  · have h := h.2 c1
    refine ab_aload_n (i := 0) d_K_cutOf_43 rfl rfl ?_
    refine ab_getR (ci := 10) (k := 7) (j := kx_ways) d_K_cutOf_44 v_479 rfl (by decide) (by decide) rfl r_kx_7 ?_
    refine ab_iload_n (i := 2) d_K_cutOf_47 rfl rfl ?_
    refine ab_iload (i := 4) d_K_cutOf_48 rfl ?_
    have g3 := h.1; have h := h.2
    refine ab_callV (me2 := mt_Ways_spanOf) (b := kx_ways) (as := [.int v2, .int v4]) (st := []) (rv := (some (.int (I kx_ways_span ((v2 * 10) + v4).toNatClampNeg)))) (M2 := (I, L, ab_RR, n, nc, ns)) d_K_cutOf_50 ce_Ways_spanOf v_1000 v_1001 v_1002 (by decide) rfl (Nat.le_of_ble_eq_true rfl) (cx_Ways_spanOf_0 v2 v4 hT g3) (Nat.le_refl _) (Nat.le_refl _) hc hs (fun j h9 => by cases h9) (fun _ _ => rfl) ?_
    show ab_E w (d + 2) mt_K_cutOf 53 [.ref kx, .int v1, .int v2, .int v3, .int v4, .null] [.int (I kx_ways_span ((v2 * 10) + v4).toNatClampNeg)] (I, L, ab_RR, n, nc, ns) res
    refine ab_iconst (v := (-1)) d_K_cutOf_53 rfl ?_
    refine ab_icmp_eq (tgt := 61) d_K_cutOf_54 (by decide) (fun c4 => ?_) (fun c4 => ?_)
    · have h := h.1 c4
      refine ab_iconst (v := 0) d_K_cutOf_61 rfl ?_
      refine ab_istore (i := 5) d_K_cutOf_62 (by decide) (Or.inr rfl) ?_
      refine ab_iload (i := 5) d_K_cutOf_64 rfl ?_
      refine ab_if_eq (tgt := 90) d_K_cutOf_66 (by decide) (fun _ => ?_) (fun c9 => absurd (show (0 : Int32) = 0 from by decide) c9)
      refine ab_iinc (i := 4) (v := (v4 + 1)) d_K_cutOf_90 rfl rfl (by decide) (Or.inr rfl) ?_
      refine ab_goto (tgt := 28) d_K_cutOf_93 (by decide) ?_
      refine ab_drop 5 ?_
      exact h
    · have h := h.2 c4
      refine ab_iconst (v := 1) d_K_cutOf_57 rfl ?_
      refine ab_goto (tgt := 62) d_K_cutOf_58 (by decide) ?_
      refine ab_istore (i := 5) d_K_cutOf_62 (by decide) (Or.inr rfl) ?_
      refine ab_iload (i := 5) d_K_cutOf_64 rfl ?_
      refine ab_if_eq (tgt := 90) d_K_cutOf_66 (by decide) (fun c9 => absurd c9 (show ¬ (1 : Int32) = 0 from by decide)) (fun _ => ?_)
      refine ab_aload_n (i := 0) d_K_cutOf_69 rfl rfl ?_
      refine ab_getR (ci := 10) (k := 7) (j := kx_ways) d_K_cutOf_70 v_479 rfl (by decide) (by decide) rfl r_kx_7 ?_
      refine ab_iload_n (i := 2) d_K_cutOf_73 rfl rfl ?_
      refine ab_iload (i := 4) d_K_cutOf_74 rfl ?_
      refine ab_callV (me2 := mt_Ways_firstCable) (b := kx_ways) (as := [.int v2, .int v4]) (st := []) (rv := (some (.int (I kx_ways_step ((v2 * 10) + v4).toNatClampNeg)))) (M2 := (I, L, ab_RR, n, nc, ns)) d_K_cutOf_76 ce_Ways_firstCable v_1004 v_1005 v_1006 (by decide) rfl (Nat.le_of_ble_eq_true rfl) (cx_Ways_firstCable_0 v2 v4 hT g3) (Nat.le_refl _) (Nat.le_refl _) hc hs (fun j h9 => by cases h9) (fun _ _ => rfl) ?_
      show ab_E w (d + 2) mt_K_cutOf 79 [.ref kx, .int v1, .int v2, .int v3, .int v4, .int 1] [.int (I kx_ways_step ((v2 * 10) + v4).toNatClampNeg)] (I, L, ab_RR, n, nc, ns) res
      refine ab_iload_n (i := 1) d_K_cutOf_79 rfl rfl ?_
      refine ab_icmp_eq (tgt := 90) d_K_cutOf_80 (by decide) (fun c6 => ?_) (fun c6 => ?_)
      · have h := h.1 c6
        refine ab_iinc (i := 4) (v := (v4 + 1)) d_K_cutOf_90 rfl rfl (by decide) (Or.inr rfl) ?_
        refine ab_goto (tgt := 28) d_K_cutOf_93 (by decide) ?_
        refine ab_drop 5 ?_
        exact h
      · have h := h.2 c6
        refine ab_iload_n (i := 3) d_K_cutOf_83 rfl rfl ?_
        refine ab_iconst (v := 1) d_K_cutOf_84 rfl ?_
        refine ab_iload (i := 4) d_K_cutOf_85 rfl ?_
        refine ab_ishl d_K_cutOf_87 ?_
        refine ab_ior d_K_cutOf_88 ?_
        refine ab_istore_n (i := 3) d_K_cutOf_89 rfl (by decide) (Or.inr rfl) ?_
        refine ab_iinc (i := 4) (v := (v4 + 1)) d_K_cutOf_90 rfl rfl (by decide) (Or.inr rfl) ?_
        refine ab_goto (tgt := 28) d_K_cutOf_93 (by decide) ?_
        refine ab_drop 5 ?_
        exact h
theorem cx_Cables_crosses_0 {w : ab_Wd} {d n nc ns : Nat} {I : Nat → Nat → Int32} {L : Nat → Nat → Int64} (v1 : Int32) (v2 : Int32) (hT : w.1.stackTraces = false) (e1 : (vp_in v1 24)) (e2 : (vp_in v1 24)) (e3 : ((v2 >>> ((I kx_now_cables_first v1.toNatClampNeg) &&& 31)) &&& 1) = ((v2 >>> ((I kx_now_cables_second v1.toNatClampNeg) &&& 31)) &&& 1)) : ab_C w d mt_Cables_crosses [.ref kx_now_cables, .int v1, .int v2] (I, L, ab_RR, n, nc, ns) (.inl (some (.int 0)), (I, L, ab_RR, n, nc, ns)) := by
  refine ab_C_of (by decide) rfl (Nat.le_of_ble_eq_true rfl) hT ?_
  have hc := Nat.le_refl nc
  have hs := Nat.le_refl ns
  refine ab_iload_n (i := 2) d_Cables_crosses_0 rfl rfl ?_
  refine ab_aload_n (i := 0) d_Cables_crosses_1 rfl rfl ?_
  refine ab_getR (ci := 1) (k := 3) (j := kx_now_cables_first) d_Cables_crosses_2 v_204 rfl (by decide) (by decide) rfl r_kx_now_cables_3 ?_
  refine ab_iload_n (i := 1) d_Cables_crosses_5 rfl rfl ?_
  refine ab_iald d_Cables_crosses_6 rfl rfl e1 ?_
  refine ab_ishr d_Cables_crosses_7 ?_
  refine ab_iconst (v := 1) d_Cables_crosses_8 rfl ?_
  refine ab_iand d_Cables_crosses_9 ?_
  refine ab_iload_n (i := 2) d_Cables_crosses_10 rfl rfl ?_
  refine ab_aload_n (i := 0) d_Cables_crosses_11 rfl rfl ?_
  refine ab_getR (ci := 1) (k := 4) (j := kx_now_cables_second) d_Cables_crosses_12 v_211 rfl (by decide) (by decide) rfl r_kx_now_cables_4 ?_
  refine ab_iload_n (i := 1) d_Cables_crosses_15 rfl rfl ?_
  refine ab_iald d_Cables_crosses_16 rfl rfl e2 ?_
  refine ab_ishr d_Cables_crosses_17 ?_
  refine ab_iconst (v := 1) d_Cables_crosses_18 rfl ?_
  refine ab_iand d_Cables_crosses_19 ?_
  refine ab_icmp_eq (tgt := 27) d_Cables_crosses_20 (by decide) (fun _ => ?_) (fun c9 => absurd e3 c9)
  refine ab_iconst (v := 0) d_Cables_crosses_27 rfl ?_
  exact ab_iret (ty := .boolean) d_Cables_crosses_28 rfl rfl rfl
theorem cx_Cables_crosses_1 {w : ab_Wd} {d n nc ns : Nat} {I : Nat → Nat → Int32} {L : Nat → Nat → Int64} (v1 : Int32) (v2 : Int32) (hT : w.1.stackTraces = false) (e1 : (vp_in v1 24)) (e2 : (vp_in v1 24)) (e3 : ¬ ((v2 >>> ((I kx_now_cables_first v1.toNatClampNeg) &&& 31)) &&& 1) = ((v2 >>> ((I kx_now_cables_second v1.toNatClampNeg) &&& 31)) &&& 1)) : ab_C w d mt_Cables_crosses [.ref kx_now_cables, .int v1, .int v2] (I, L, ab_RR, n, nc, ns) (.inl (some (.int 1)), (I, L, ab_RR, n, nc, ns)) := by
  refine ab_C_of (by decide) rfl (Nat.le_of_ble_eq_true rfl) hT ?_
  have hc := Nat.le_refl nc
  have hs := Nat.le_refl ns
  refine ab_iload_n (i := 2) d_Cables_crosses_0 rfl rfl ?_
  refine ab_aload_n (i := 0) d_Cables_crosses_1 rfl rfl ?_
  refine ab_getR (ci := 1) (k := 3) (j := kx_now_cables_first) d_Cables_crosses_2 v_204 rfl (by decide) (by decide) rfl r_kx_now_cables_3 ?_
  refine ab_iload_n (i := 1) d_Cables_crosses_5 rfl rfl ?_
  refine ab_iald d_Cables_crosses_6 rfl rfl e1 ?_
  refine ab_ishr d_Cables_crosses_7 ?_
  refine ab_iconst (v := 1) d_Cables_crosses_8 rfl ?_
  refine ab_iand d_Cables_crosses_9 ?_
  refine ab_iload_n (i := 2) d_Cables_crosses_10 rfl rfl ?_
  refine ab_aload_n (i := 0) d_Cables_crosses_11 rfl rfl ?_
  refine ab_getR (ci := 1) (k := 4) (j := kx_now_cables_second) d_Cables_crosses_12 v_211 rfl (by decide) (by decide) rfl r_kx_now_cables_4 ?_
  refine ab_iload_n (i := 1) d_Cables_crosses_15 rfl rfl ?_
  refine ab_iald d_Cables_crosses_16 rfl rfl e2 ?_
  refine ab_ishr d_Cables_crosses_17 ?_
  refine ab_iconst (v := 1) d_Cables_crosses_18 rfl ?_
  refine ab_iand d_Cables_crosses_19 ?_
  refine ab_icmp_eq (tgt := 27) d_Cables_crosses_20 (by decide) (fun c9 => absurd c9 e3) (fun _ => ?_)
  refine ab_iconst (v := 1) d_Cables_crosses_23 rfl ?_
  refine ab_goto (tgt := 28) d_Cables_crosses_24 (by decide) ?_
  exact ab_iret (ty := .boolean) d_Cables_crosses_28 rfl rfl rfl
theorem r_K_rivalOf_0 {w : ab_Wd} {d n nc ns : Nat} {I : Nat → Nat → Int32} {L : Nat → Nat → Int64} {res : ab_Re} (hT : w.1.stackTraces = false) (v1 : Int32) (hc : nc ≤ res.2.2.2.2.2.1) (hs : ns ≤ res.2.2.2.2.2.2)
    (h : ∃ (r1 : Int32), ab_C w d mt_K_cutOf [.ref kx, .int v1] (I, L, ab_RR, n, nc, ns) (.inl (some (.int r1)), (I, L, ab_RR, n, nc, ns)) ∧ ((¬ r1 = 0 → (ab_E w (d + 1) mt_K_rivalOf 23 [.ref kx, .int v1, .int r1, .ref kx_now_cables, .int 0, .null] [] (I, L, ab_RR, n, nc, ns) res)) ∧ (r1 = 0 → (res = (.inl (some (.int (-1))), (I, L, ab_RR, n, nc, ns)))))) : ab_E w (d + 1) mt_K_rivalOf 0 [.ref kx, .int v1, .null, .null, .null, .null] [] (I, L, ab_RR, n, nc, ns) res := by
  refine ab_aload_n (i := 0) d_K_rivalOf_0 rfl rfl ?_
  refine ab_iload_n (i := 1) d_K_rivalOf_1 rfl rfl ?_
  obtain ⟨r1, hC, h⟩ := h
  refine ab_callV (me2 := mt_K_cutOf) (b := kx) (as := [.int v1]) (st := []) (rv := (some (.int r1))) (M2 := (I, L, ab_RR, n, nc, ns)) d_K_rivalOf_2 ce_K_cutOf v_996 v_998 v_37 (by decide) rfl (Nat.le_of_ble_eq_true rfl) hC (Nat.le_refl _) (Nat.le_refl _) hc hs (fun j h9 => by cases h9) (fun _ _ => rfl) ?_
  show ab_E w (d + 1) mt_K_rivalOf 5 [.ref kx, .int v1, .null, .null, .null, .null] [.int r1] (I, L, ab_RR, n, nc, ns) res
  refine ab_istore_n (i := 2) d_K_rivalOf_5 rfl (by decide) (Or.inr rfl) ?_
  refine ab_iload_n (i := 2) d_K_rivalOf_6 rfl rfl ?_
  refine ab_if_ne (tgt := 12) d_K_rivalOf_7 (by decide) (fun c2 => ?_) (fun c2 => ?_)
  · have h := h.1 c2
    refine ab_aload_n (i := 0) d_K_rivalOf_12 rfl rfl ?_
    refine ab_getR (ci := 10) (k := 3) (j := kx_now) d_K_rivalOf_13 v_475 rfl (by decide) (by decide) rfl r_kx_3 ?_
    refine ab_getR (ci := 6) (k := 0) (j := kx_now_cables) d_K_rivalOf_16 v_294 rfl (by decide) (by decide) rfl r_kx_now_0 ?_
    refine ab_astore_n (i := 3) d_K_rivalOf_19 rfl (by decide) (Or.inr rfl) ?_
    refine ab_iconst (v := 0) d_K_rivalOf_20 rfl ?_
    refine ab_istore (i := 4) d_K_rivalOf_21 (by decide) (Or.inr rfl) ?_
    exact h
  · have h := h.2 c2
    refine ab_iconst (v := (-1)) d_K_rivalOf_10 rfl ?_
    exact ab_iret (ty := .int) d_K_rivalOf_11 rfl rfl h
theorem r_K_rivalOf_23 {w : ab_Wd} {d n nc ns : Nat} {I : Nat → Nat → Int32} {L : Nat → Nat → Int64} {res : ab_Re} (hT : w.1.stackTraces = false) (v1 : Int32) (v2 : Int32) (v4 : Int32) (hc : nc ≤ res.2.2.2.2.2.1) (hs : ns ≤ res.2.2.2.2.2.2)
    (h : (((I kx_now_cables 1) ≤ v4 → (res = (.inl (some (.int (-1))), (I, L, ab_RR, n, nc, ns)))) ∧ (¬ (I kx_now_cables 1) ≤ v4 → ((vp_in v4 24) ∧ (((I kx_now_cables_order v4.toNatClampNeg) = v1 → (ab_E w (d + 1) mt_K_rivalOf 23 [.ref kx, .int v1, .int v2, .ref kx_now_cables, .int (v4 + 1), .null] [] (I, L, ab_RR, n, nc, ns) res)) ∧ (¬ (I kx_now_cables_order v4.toNatClampNeg) = v1 → (((((I kx_now_cables 2) >>> ((I kx_now_cables_order v4.toNatClampNeg) &&& 31)) &&& 1) = 1 → ((vp_in (I kx_now_cables_order v4.toNatClampNeg) 24) ∧ ((((v2 >>> ((I kx_now_cables_first (I kx_now_cables_order v4.toNatClampNeg).toNatClampNeg) &&& 31)) &&& 1) = ((v2 >>> ((I kx_now_cables_second (I kx_now_cables_order v4.toNatClampNeg).toNatClampNeg) &&& 31)) &&& 1) → (ab_E w (d + 1) mt_K_rivalOf 23 [.ref kx, .int v1, .int v2, .ref kx_now_cables, .int (v4 + 1), .null] [] (I, L, ab_RR, n, nc, ns) res)) ∧ (¬ ((v2 >>> ((I kx_now_cables_first (I kx_now_cables_order v4.toNatClampNeg).toNatClampNeg) &&& 31)) &&& 1) = ((v2 >>> ((I kx_now_cables_second (I kx_now_cables_order v4.toNatClampNeg).toNatClampNeg) &&& 31)) &&& 1) → (res = (.inl (some (.int (I kx_now_cables_order v4.toNatClampNeg))), (I, L, ab_RR, n, nc, ns))))))) ∧ (¬ (((I kx_now_cables 2) >>> ((I kx_now_cables_order v4.toNatClampNeg) &&& 31)) &&& 1) = 1 → (ab_E w (d + 1) mt_K_rivalOf 23 [.ref kx, .int v1, .int v2, .ref kx_now_cables, .int (v4 + 1), .null] [] (I, L, ab_RR, n, nc, ns) res))))))))) : ab_E w (d + 1) mt_K_rivalOf 23 [.ref kx, .int v1, .int v2, .ref kx_now_cables, .int v4, .null] [] (I, L, ab_RR, n, nc, ns) res := by
  refine ab_iload (i := 4) d_K_rivalOf_23 rfl ?_
  refine ab_aload_n (i := 3) d_K_rivalOf_25 rfl rfl ?_
  refine ab_getI (ci := 1) (k := 1) d_K_rivalOf_26 v_199 rfl (by decide) (by decide) rfl ?_
  refine ab_icmp_ge (tgt := 75) d_K_rivalOf_29 (by decide) (fun c1 => ?_) (fun c1 => ?_)
  · have h := h.1 c1
    refine ab_iconst (v := (-1)) d_K_rivalOf_75 rfl ?_
    exact ab_iret (ty := .int) d_K_rivalOf_76 rfl rfl h
  · have h := h.2 c1
    refine ab_aload_n (i := 3) d_K_rivalOf_32 rfl rfl ?_
    refine ab_getR (ci := 1) (k := 7) (j := kx_now_cables_order) d_K_rivalOf_33 v_232 rfl (by decide) (by decide) rfl r_kx_now_cables_7 ?_
    refine ab_iload (i := 4) d_K_rivalOf_36 rfl ?_
    have g2 := h.1; have h := h.2
    refine ab_iald d_K_rivalOf_38 rfl rfl g2 ?_
    refine ab_istore (i := 5) d_K_rivalOf_39 (by decide) (Or.inr rfl) ?_
    refine ab_iload (i := 5) d_K_rivalOf_41 rfl ?_
    refine ab_iload_n (i := 1) d_K_rivalOf_43 rfl rfl ?_
    refine ab_icmp_eq (tgt := 69) d_K_rivalOf_44 (by decide) (fun c3 => ?_) (fun c3 => ?_)
    · have h := h.1 c3
      refine ab_iinc (i := 4) (v := (v4 + 1)) d_K_rivalOf_69 rfl rfl (by decide) (Or.inr rfl) ?_
      refine ab_goto (tgt := 23) d_K_rivalOf_72 (by decide) ?_
      refine ab_drop 5 ?_
      exact h
    · have h := h.2 c3
      refine ab_aload_n (i := 3) d_K_rivalOf_47 rfl rfl ?_
      refine ab_iload (i := 5) d_K_rivalOf_48 rfl ?_
      by_cases c5 : (((I kx_now_cables 2) >>> ((I kx_now_cables_order v4.toNatClampNeg) &&& 31)) &&& 1) = 1
      · have h := h.1 c5
        refine ab_callV (me2 := mt_Cables_isSound) (b := kx_now_cables) (as := [.int (I kx_now_cables_order v4.toNatClampNeg)]) (st := []) (rv := (some (.int 1))) (M2 := (I, L, ab_RR, n, nc, ns)) d_K_rivalOf_50 ce_Cables_isSound v_624 v_540 v_541 (by decide) rfl (Nat.le_of_ble_eq_true rfl) (cx_Cables_isSound_0_1 (I kx_now_cables_order v4.toNatClampNeg) hT c5) (Nat.le_refl _) (Nat.le_refl _) hc hs (fun j h9 => by cases h9) (fun _ _ => rfl) ?_
        show ab_E w (d + 1) mt_K_rivalOf 53 [.ref kx, .int v1, .int v2, .ref kx_now_cables, .int v4, .int (I kx_now_cables_order v4.toNatClampNeg)] [.int 1] (I, L, ab_RR, n, nc, ns) res
        refine ab_if_eq (tgt := 69) d_K_rivalOf_53 (by decide) (fun c9 => absurd c9 (show ¬ (1 : Int32) = 0 from by decide)) (fun _ => ?_)
        refine ab_aload_n (i := 3) d_K_rivalOf_56 rfl rfl ?_
        refine ab_iload (i := 5) d_K_rivalOf_57 rfl ?_
        refine ab_iload_n (i := 2) d_K_rivalOf_59 rfl rfl ?_
        have g7 := h.1; have h := h.2
        by_cases c8 : ((v2 >>> ((I kx_now_cables_first (I kx_now_cables_order v4.toNatClampNeg).toNatClampNeg) &&& 31)) &&& 1) = ((v2 >>> ((I kx_now_cables_second (I kx_now_cables_order v4.toNatClampNeg).toNatClampNeg) &&& 31)) &&& 1)
        · have h := h.1 c8
          refine ab_callV (me2 := mt_Cables_crosses) (b := kx_now_cables) (as := [.int (I kx_now_cables_order v4.toNatClampNeg), .int v2]) (st := []) (rv := (some (.int 0))) (M2 := (I, L, ab_RR, n, nc, ns)) d_K_rivalOf_60 ce_Cables_crosses v_1008 v_1009 v_1010 (by decide) rfl (Nat.le_of_ble_eq_true rfl) (cx_Cables_crosses_0 (I kx_now_cables_order v4.toNatClampNeg) v2 hT g7 g7 c8) (Nat.le_refl _) (Nat.le_refl _) hc hs (fun j h9 => by cases h9) (fun _ _ => rfl) ?_
          show ab_E w (d + 1) mt_K_rivalOf 63 [.ref kx, .int v1, .int v2, .ref kx_now_cables, .int v4, .int (I kx_now_cables_order v4.toNatClampNeg)] [.int 0] (I, L, ab_RR, n, nc, ns) res
          refine ab_if_eq (tgt := 69) d_K_rivalOf_63 (by decide) (fun _ => ?_) (fun c9 => absurd (show (0 : Int32) = 0 from by decide) c9)
          refine ab_iinc (i := 4) (v := (v4 + 1)) d_K_rivalOf_69 rfl rfl (by decide) (Or.inr rfl) ?_
          refine ab_goto (tgt := 23) d_K_rivalOf_72 (by decide) ?_
          refine ab_drop 5 ?_
          exact h
        · have h := h.2 c8
          refine ab_callV (me2 := mt_Cables_crosses) (b := kx_now_cables) (as := [.int (I kx_now_cables_order v4.toNatClampNeg), .int v2]) (st := []) (rv := (some (.int 1))) (M2 := (I, L, ab_RR, n, nc, ns)) d_K_rivalOf_60 ce_Cables_crosses v_1008 v_1009 v_1010 (by decide) rfl (Nat.le_of_ble_eq_true rfl) (cx_Cables_crosses_1 (I kx_now_cables_order v4.toNatClampNeg) v2 hT g7 g7 c8) (Nat.le_refl _) (Nat.le_refl _) hc hs (fun j h9 => by cases h9) (fun _ _ => rfl) ?_
          show ab_E w (d + 1) mt_K_rivalOf 63 [.ref kx, .int v1, .int v2, .ref kx_now_cables, .int v4, .int (I kx_now_cables_order v4.toNatClampNeg)] [.int 1] (I, L, ab_RR, n, nc, ns) res
          refine ab_if_eq (tgt := 69) d_K_rivalOf_63 (by decide) (fun c9 => absurd c9 (show ¬ (1 : Int32) = 0 from by decide)) (fun _ => ?_)
          refine ab_iload (i := 5) d_K_rivalOf_66 rfl ?_
          exact ab_iret (ty := .int) d_K_rivalOf_68 rfl rfl h
      · have h := h.2 c5
        refine ab_callV (me2 := mt_Cables_isSound) (b := kx_now_cables) (as := [.int (I kx_now_cables_order v4.toNatClampNeg)]) (st := []) (rv := (some (.int 0))) (M2 := (I, L, ab_RR, n, nc, ns)) d_K_rivalOf_50 ce_Cables_isSound v_624 v_540 v_541 (by decide) rfl (Nat.le_of_ble_eq_true rfl) (cx_Cables_isSound_0_0 (I kx_now_cables_order v4.toNatClampNeg) hT c5) (Nat.le_refl _) (Nat.le_refl _) hc hs (fun j h9 => by cases h9) (fun _ _ => rfl) ?_
        show ab_E w (d + 1) mt_K_rivalOf 53 [.ref kx, .int v1, .int v2, .ref kx_now_cables, .int v4, .int (I kx_now_cables_order v4.toNatClampNeg)] [.int 0] (I, L, ab_RR, n, nc, ns) res
        refine ab_if_eq (tgt := 69) d_K_rivalOf_53 (by decide) (fun _ => ?_) (fun c9 => absurd (show (0 : Int32) = 0 from by decide) c9)
        refine ab_iinc (i := 4) (v := (v4 + 1)) d_K_rivalOf_69 rfl rfl (by decide) (Or.inr rfl) ?_
        refine ab_goto (tgt := 23) d_K_rivalOf_72 (by decide) ?_
        refine ab_drop 5 ?_
        exact h
theorem r_K_partnerOf_0 {w : ab_Wd} {d n nc ns : Nat} {I : Nat → Nat → Int32} {L : Nat → Nat → Int64} {res : ab_Re} (hT : w.1.stackTraces = false) (v1 : Int32) (hc : nc ≤ res.2.2.2.2.2.1) (hs : ns ≤ res.2.2.2.2.2.2)
    (h : (((((I kx_forest 2) >>> (v1 &&& 31)) &&& 1) = 1 → (∃ (r3 : Int32), ab_C w (d + 2) mt_K_rivalOf [.ref kx, .int v1] (I, L, ab_RR, n, nc, ns) (.inl (some (.int r3)), (I, L, ab_RR, n, nc, ns)) ∧ res = (.inl (some (.int r3)), (I, L, ab_RR, n, nc, ns)))) ∧ (¬ (((I kx_forest 2) >>> (v1 &&& 31)) &&& 1) = 1 → (((((I kx_now_cables 2) >>> (v1 &&& 31)) &&& 1) = 1 → ((vp_in v1 24) ∧ (vp_in (((I kx_now_cables_first v1.toNatClampNeg) * 10) + (I kx_now_cables_second v1.toNatClampNeg)) 100) ∧ res = (.inl (some (.int (I kx_ways_dearest (((I kx_now_cables_first v1.toNatClampNeg) * 10) + (I kx_now_cables_second v1.toNatClampNeg)).toNatClampNeg))), (I, L, ab_RR, n, nc, ns)))) ∧ (¬ (((I kx_now_cables 2) >>> (v1 &&& 31)) &&& 1) = 1 → (res = (.inl (some (.int (-1))), (I, L, ab_RR, n, nc, ns)))))))) : ab_E w (d + 3) mt_K_partnerOf 0 [.ref kx, .int v1] [] (I, L, ab_RR, n, nc, ns) res := by
  refine ab_aload_n (i := 0) d_K_partnerOf_0 rfl rfl ?_
  refine ab_iload_n (i := 1) d_K_partnerOf_1 rfl rfl ?_
  by_cases c2 : (((I kx_forest 2) >>> (v1 &&& 31)) &&& 1) = 1
  · have h := h.1 c2
    refine ab_callV (me2 := mt_K_isInside) (b := kx) (as := [.int v1]) (st := []) (rv := (some (.int 1))) (M2 := (I, L, ab_RR, n, nc, ns)) d_K_partnerOf_2 ce_K_isInside v_944 v_946 v_30 (by decide) rfl (Nat.le_of_ble_eq_true rfl) (cx_K_isInside_1 v1 hT c2) (Nat.le_refl _) (Nat.le_refl _) hc hs (fun j h9 => by cases h9) (fun _ _ => rfl) ?_
    show ab_E w (d + 3) mt_K_partnerOf 5 [.ref kx, .int v1] [.int 1] (I, L, ab_RR, n, nc, ns) res
    refine ab_if_eq (tgt := 16) d_K_partnerOf_5 (by decide) (fun c9 => absurd c9 (show ¬ (1 : Int32) = 0 from by decide)) (fun _ => ?_)
    refine ab_aload_n (i := 0) d_K_partnerOf_8 rfl rfl ?_
    refine ab_iload_n (i := 1) d_K_partnerOf_9 rfl rfl ?_
    obtain ⟨r3, hC, h⟩ := h
    refine ab_callV (me2 := mt_K_rivalOf) (b := kx) (as := [.int v1]) (st := []) (rv := (some (.int r3))) (M2 := (I, L, ab_RR, n, nc, ns)) d_K_partnerOf_10 ce_K_rivalOf v_1083 v_1085 v_45 (by decide) rfl (Nat.le_of_ble_eq_true rfl) hC (Nat.le_refl _) (Nat.le_refl _) hc hs (fun j h9 => by cases h9) (fun _ _ => rfl) ?_
    show ab_E w (d + 3) mt_K_partnerOf 13 [.ref kx, .int v1] [.int r3] (I, L, ab_RR, n, nc, ns) res
    refine ab_goto (tgt := 21) d_K_partnerOf_13 (by decide) ?_
    exact ab_iret (ty := .int) d_K_partnerOf_21 rfl rfl h
  · have h := h.2 c2
    refine ab_callV (me2 := mt_K_isInside) (b := kx) (as := [.int v1]) (st := []) (rv := (some (.int 0))) (M2 := (I, L, ab_RR, n, nc, ns)) d_K_partnerOf_2 ce_K_isInside v_944 v_946 v_30 (by decide) rfl (Nat.le_of_ble_eq_true rfl) (cx_K_isInside_0 v1 hT c2) (Nat.le_refl _) (Nat.le_refl _) hc hs (fun j h9 => by cases h9) (fun _ _ => rfl) ?_
    show ab_E w (d + 3) mt_K_partnerOf 5 [.ref kx, .int v1] [.int 0] (I, L, ab_RR, n, nc, ns) res
    refine ab_if_eq (tgt := 16) d_K_partnerOf_5 (by decide) (fun _ => ?_) (fun c9 => absurd (show (0 : Int32) = 0 from by decide) c9)
    refine ab_aload_n (i := 0) d_K_partnerOf_16 rfl rfl ?_
    refine ab_iload_n (i := 1) d_K_partnerOf_17 rfl rfl ?_
    by_cases c5 : (((I kx_now_cables 2) >>> (v1 &&& 31)) &&& 1) = 1
    · have h := h.1 c5
      have g6 := h.1; have h := h.2
      have g7 := h.1; have h := h.2
      refine ab_callV (me2 := mt_K_dearestOf) (b := kx) (as := [.int v1]) (st := []) (rv := (some (.int (I kx_ways_dearest (((I kx_now_cables_first v1.toNatClampNeg) * 10) + (I kx_now_cables_second v1.toNatClampNeg)).toNatClampNeg)))) (M2 := (I, L, ab_RR, n, nc, ns)) d_K_partnerOf_18 ce_K_dearestOf v_936 v_938 v_28 (by decide) rfl (Nat.le_of_ble_eq_true rfl) (cx_K_dearestOf_1 v1 hT c5 (show ¬ (1 : Int32) = 0 from by decide) c2 (show (0 : Int32) = 0 from by decide) (show ¬ (1 : Int32) = 0 from by decide) g6 g6 g7) (Nat.le_refl _) (Nat.le_refl _) hc hs (fun j h9 => by cases h9) (fun _ _ => rfl) ?_
      show ab_E w (d + 3) mt_K_partnerOf 21 [.ref kx, .int v1] [.int (I kx_ways_dearest (((I kx_now_cables_first v1.toNatClampNeg) * 10) + (I kx_now_cables_second v1.toNatClampNeg)).toNatClampNeg)] (I, L, ab_RR, n, nc, ns) res
      exact ab_iret (ty := .int) d_K_partnerOf_21 rfl rfl h
    · have h := h.2 c5
      refine ab_callV (me2 := mt_K_dearestOf) (b := kx) (as := [.int v1]) (st := []) (rv := (some (.int (-1)))) (M2 := (I, L, ab_RR, n, nc, ns)) d_K_partnerOf_18 ce_K_dearestOf v_936 v_938 v_28 (by decide) rfl (Nat.le_of_ble_eq_true rfl) (cx_K_dearestOf_0 v1 hT c5 (show (0 : Int32) = 0 from by decide) (show (0 : Int32) = 0 from by decide)) (Nat.le_refl _) (Nat.le_refl _) hc hs (fun j h9 => by cases h9) (fun _ _ => rfl) ?_
      show ab_E w (d + 3) mt_K_partnerOf 21 [.ref kx, .int v1] [.int (-1)] (I, L, ab_RR, n, nc, ns) res
      exact ab_iret (ty := .int) d_K_partnerOf_21 rfl rfl h
theorem r_K_barOf_0 {w : ab_Wd} {d n nc ns : Nat} {I : Nat → Nat → Int32} {L : Nat → Nat → Int64} {res : ab_Re} (hT : w.1.stackTraces = false) (v1 : Int32) (hc : nc ≤ res.2.2.2.2.2.1) (hs : ns ≤ res.2.2.2.2.2.2)
    (h : (((((I kx_now_cables 2) >>> (v1 &&& 31)) &&& 1) = 1 → (∃ (r3 : Int32), ab_C w d mt_K_partnerOf [.ref kx, .int v1] (I, L, ab_RR, n, nc, ns) (.inl (some (.int r3)), (I, L, ab_RR, n, nc, ns)) ∧ ((¬ r3 = (-1) → ((vp_in r3 24) ∧ ((r3 ≤ v1 → ((1 ≤ ((I kx_now_cables_price r3.toNatClampNeg) - 1) → (res = (.inl (some (.int ((I kx_now_cables_price r3.toNatClampNeg) - 1))), (I, L, ab_RR, n, nc, ns)))) ∧ (¬ 1 ≤ ((I kx_now_cables_price r3.toNatClampNeg) - 1) → (res = (.inl (some (.int (-1))), (I, L, ab_RR, n, nc, ns)))))) ∧ (¬ r3 ≤ v1 → ((1 ≤ (I kx_now_cables_price r3.toNatClampNeg) → (res = (.inl (some (.int (I kx_now_cables_price r3.toNatClampNeg))), (I, L, ab_RR, n, nc, ns)))) ∧ (¬ 1 ≤ (I kx_now_cables_price r3.toNatClampNeg) → (res = (.inl (some (.int (-1))), (I, L, ab_RR, n, nc, ns))))))))) ∧ (r3 = (-1) → (res = (.inl (some (.int 999)), (I, L, ab_RR, n, nc, ns))))))) ∧ (¬ (((I kx_now_cables 2) >>> (v1 &&& 31)) &&& 1) = 1 → (res = (.inl (some (.int (-1))), (I, L, ab_RR, n, nc, ns)))))) : ab_E w (d + 1) mt_K_barOf 0 [.ref kx, .int v1, .null, .null, .null] [] (I, L, ab_RR, n, nc, ns) res := by
  refine ab_aload_n (i := 0) d_K_barOf_0 rfl rfl ?_
  refine ab_getR (ci := 10) (k := 3) (j := kx_now) d_K_barOf_1 v_475 rfl (by decide) (by decide) rfl r_kx_3 ?_
  refine ab_getR (ci := 6) (k := 0) (j := kx_now_cables) d_K_barOf_4 v_294 rfl (by decide) (by decide) rfl r_kx_now_0 ?_
  refine ab_iload_n (i := 1) d_K_barOf_7 rfl rfl ?_
  by_cases c2 : (((I kx_now_cables 2) >>> (v1 &&& 31)) &&& 1) = 1
  · have h := h.1 c2
    refine ab_callV (me2 := mt_Cables_isSound) (b := kx_now_cables) (as := [.int v1]) (st := []) (rv := (some (.int 1))) (M2 := (I, L, ab_RR, n, nc, ns)) d_K_barOf_8 ce_Cables_isSound v_624 v_540 v_541 (by decide) rfl (Nat.le_of_ble_eq_true rfl) (cx_Cables_isSound_0_1 v1 hT c2) (Nat.le_refl _) (Nat.le_refl _) hc hs (fun j h9 => by cases h9) (fun _ _ => rfl) ?_
    show ab_E w (d + 1) mt_K_barOf 11 [.ref kx, .int v1, .null, .null, .null] [.int 1] (I, L, ab_RR, n, nc, ns) res
    refine ab_if_ne (tgt := 16) d_K_barOf_11 (by decide) (fun _ => ?_) (fun c9 => absurd c9 (show ¬ (1 : Int32) = 0 from by decide))
    refine ab_aload_n (i := 0) d_K_barOf_16 rfl rfl ?_
    refine ab_iload_n (i := 1) d_K_barOf_17 rfl rfl ?_
    obtain ⟨r3, hC, h⟩ := h
    refine ab_callV (me2 := mt_K_partnerOf) (b := kx) (as := [.int v1]) (st := []) (rv := (some (.int r3))) (M2 := (I, L, ab_RR, n, nc, ns)) d_K_barOf_18 ce_K_partnerOf v_1091 v_1093 v_47 (by decide) rfl (Nat.le_of_ble_eq_true rfl) hC (Nat.le_refl _) (Nat.le_refl _) hc hs (fun j h9 => by cases h9) (fun _ _ => rfl) ?_
    show ab_E w (d + 1) mt_K_barOf 21 [.ref kx, .int v1, .null, .null, .null] [.int r3] (I, L, ab_RR, n, nc, ns) res
    refine ab_istore_n (i := 2) d_K_barOf_21 rfl (by decide) (Or.inr rfl) ?_
    refine ab_iload_n (i := 2) d_K_barOf_22 rfl rfl ?_
    refine ab_iconst (v := (-1)) d_K_barOf_23 rfl ?_
    refine ab_icmp_ne (tgt := 31) d_K_barOf_24 (by decide) (fun c4 => ?_) (fun c4 => ?_)
    · have h := h.1 c4
      refine ab_aload_n (i := 0) d_K_barOf_31 rfl rfl ?_
      refine ab_getR (ci := 10) (k := 3) (j := kx_now) d_K_barOf_32 v_475 rfl (by decide) (by decide) rfl r_kx_3 ?_
      refine ab_getR (ci := 6) (k := 0) (j := kx_now_cables) d_K_barOf_35 v_294 rfl (by decide) (by decide) rfl r_kx_now_0 ?_
      refine ab_getR (ci := 1) (k := 5) (j := kx_now_cables_price) d_K_barOf_38 v_224 rfl (by decide) (by decide) rfl r_kx_now_cables_5 ?_
      refine ab_iload_n (i := 2) d_K_barOf_41 rfl rfl ?_
      have g5 := h.1; have h := h.2
      refine ab_iald d_K_barOf_42 rfl rfl g5 ?_
      refine ab_istore_n (i := 3) d_K_barOf_43 rfl (by decide) (Or.inr rfl) ?_
      refine ab_iload_n (i := 1) d_K_barOf_44 rfl rfl ?_
      refine ab_iload_n (i := 2) d_K_barOf_45 rfl rfl ?_
      refine ab_icmp_ge (tgt := 53) d_K_barOf_46 (by decide) (fun c6 => ?_) (fun c6 => ?_)
      · have h := h.1 c6
        refine ab_iload_n (i := 3) d_K_barOf_53 rfl rfl ?_
        refine ab_iconst (v := 1) d_K_barOf_54 rfl ?_
        refine ab_isub d_K_barOf_55 ?_
        refine ab_istore (i := 4) d_K_barOf_56 (by decide) (Or.inr rfl) ?_
        refine ab_iload (i := 4) d_K_barOf_58 rfl ?_
        refine ab_iconst (v := 1) d_K_barOf_60 rfl ?_
        refine ab_icmp_ge (tgt := 68) d_K_barOf_61 (by decide) (fun c7 => ?_) (fun c7 => ?_)
        · have h := h.1 c7
          refine ab_iload (i := 4) d_K_barOf_68 rfl ?_
          exact ab_iret (ty := .int) d_K_barOf_70 rfl rfl h
        · have h := h.2 c7
          refine ab_iconst (v := (-1)) d_K_barOf_64 rfl ?_
          refine ab_goto (tgt := 70) d_K_barOf_65 (by decide) ?_
          exact ab_iret (ty := .int) d_K_barOf_70 rfl rfl h
      · have h := h.2 c6
        refine ab_iload_n (i := 3) d_K_barOf_49 rfl rfl ?_
        refine ab_goto (tgt := 56) d_K_barOf_50 (by decide) ?_
        refine ab_istore (i := 4) d_K_barOf_56 (by decide) (Or.inr rfl) ?_
        refine ab_iload (i := 4) d_K_barOf_58 rfl ?_
        refine ab_iconst (v := 1) d_K_barOf_60 rfl ?_
        refine ab_icmp_ge (tgt := 68) d_K_barOf_61 (by decide) (fun c8 => ?_) (fun c8 => ?_)
        · have h := h.1 c8
          refine ab_iload (i := 4) d_K_barOf_68 rfl ?_
          exact ab_iret (ty := .int) d_K_barOf_70 rfl rfl h
        · have h := h.2 c8
          refine ab_iconst (v := (-1)) d_K_barOf_64 rfl ?_
          refine ab_goto (tgt := 70) d_K_barOf_65 (by decide) ?_
          exact ab_iret (ty := .int) d_K_barOf_70 rfl rfl h
    · have h := h.2 c4
      refine ab_sipush (v := 999) d_K_barOf_27 rfl ?_
      exact ab_iret (ty := .int) d_K_barOf_30 rfl rfl h
  · have h := h.2 c2
    refine ab_callV (me2 := mt_Cables_isSound) (b := kx_now_cables) (as := [.int v1]) (st := []) (rv := (some (.int 0))) (M2 := (I, L, ab_RR, n, nc, ns)) d_K_barOf_8 ce_Cables_isSound v_624 v_540 v_541 (by decide) rfl (Nat.le_of_ble_eq_true rfl) (cx_Cables_isSound_0_0 v1 hT c2) (Nat.le_refl _) (Nat.le_refl _) hc hs (fun j h9 => by cases h9) (fun _ _ => rfl) ?_
    show ab_E w (d + 1) mt_K_barOf 11 [.ref kx, .int v1, .null, .null, .null] [.int 0] (I, L, ab_RR, n, nc, ns) res
    refine ab_if_ne (tgt := 16) d_K_barOf_11 (by decide) (fun c9 => absurd (show (0 : Int32) = 0 from by decide) c9) (fun _ => ?_)
    refine ab_iconst (v := (-1)) d_K_barOf_14 rfl ?_
    exact ab_iret (ty := .int) d_K_barOf_15 rfl rfl h
theorem r_K_lossOf_0 {w : ab_Wd} {d n nc ns : Nat} {I : Nat → Nat → Int32} {L : Nat → Nat → Int64} {res : ab_Re} (hT : w.1.stackTraces = false) (v1 : Int32) (hc : nc ≤ res.2.2.2.2.2.1) (hs : ns ≤ res.2.2.2.2.2.2)
    (h : (((((I kx_now_cables 2) >>> (v1 &&& 31)) &&& 1) = 1 → (((((I kx_forest 2) >>> (v1 &&& 31)) &&& 1) = 1 → (∃ (r4 : Int32), ab_C w (d + 1) mt_K_rivalOf [.ref kx, .int v1] (I, L, ab_RR, n, nc, ns) (.inl (some (.int r4)), (I, L, ab_RR, n, nc, ns)) ∧ ((¬ r4 = (-1) → ((vp_in r4 24) ∧ (vp_in v1 24) ∧ res = (.inl (some (.int ((I kx_now_cables_price r4.toNatClampNeg) - (I kx_now_cables_price v1.toNatClampNeg)))), (I, L, ab_RR, n, nc, ns)))) ∧ (r4 = (-1) → (res = (.inl (some (.int (-1))), (I, L, ab_RR, n, nc, ns))))))) ∧ (¬ (((I kx_forest 2) >>> (v1 &&& 31)) &&& 1) = 1 → (res = (.inl (some (.int 0)), (I, L, ab_RR, n, nc, ns)))))) ∧ (¬ (((I kx_now_cables 2) >>> (v1 &&& 31)) &&& 1) = 1 → (∃ (r8 : Int32), ab_C w (d + 1) mt_K_rivalOf [.ref kx, .int v1] (I, L, ab_RR, n, nc, ns) (.inl (some (.int r8)), (I, L, ab_RR, n, nc, ns)) ∧ ((¬ r8 = (-1) → ((vp_in r8 24) ∧ (vp_in v1 24) ∧ res = (.inl (some (.int ((I kx_now_cables_price r8.toNatClampNeg) - (I kx_now_cables_price v1.toNatClampNeg)))), (I, L, ab_RR, n, nc, ns)))) ∧ (r8 = (-1) → (res = (.inl (some (.int (-1))), (I, L, ab_RR, n, nc, ns))))))))) : ab_E w (d + 2) mt_K_lossOf 0 [.ref kx, .int v1, .null] [] (I, L, ab_RR, n, nc, ns) res := by
  refine ab_aload_n (i := 0) d_K_lossOf_0 rfl rfl ?_
  refine ab_iload_n (i := 1) d_K_lossOf_1 rfl rfl ?_
  by_cases c2 : (((I kx_now_cables 2) >>> (v1 &&& 31)) &&& 1) = 1
  · have h := h.1 c2
    by_cases c3 : (((I kx_forest 2) >>> (v1 &&& 31)) &&& 1) = 1
    · have h := h.1 c3
      refine ab_callV (me2 := mt_K_isOutside) (b := kx) (as := [.int v1]) (st := []) (rv := (some (.int 0))) (M2 := (I, L, ab_RR, n, nc, ns)) d_K_lossOf_2 ce_K_isOutside v_940 v_942 v_29 (by decide) rfl (Nat.le_of_ble_eq_true rfl) (cx_K_isOutside_2 v1 hT c2 (show ¬ (1 : Int32) = 0 from by decide) c3 (show ¬ (1 : Int32) = 0 from by decide)) (Nat.le_refl _) (Nat.le_refl _) hc hs (fun j h9 => by cases h9) (fun _ _ => rfl) ?_
      show ab_E w (d + 2) mt_K_lossOf 5 [.ref kx, .int v1, .null] [.int 0] (I, L, ab_RR, n, nc, ns) res
      refine ab_if_eq (tgt := 10) d_K_lossOf_5 (by decide) (fun _ => ?_) (fun c9 => absurd (show (0 : Int32) = 0 from by decide) c9)
      refine ab_aload_n (i := 0) d_K_lossOf_10 rfl rfl ?_
      refine ab_iload_n (i := 1) d_K_lossOf_11 rfl rfl ?_
      obtain ⟨r4, hC, h⟩ := h
      refine ab_callV (me2 := mt_K_rivalOf) (b := kx) (as := [.int v1]) (st := []) (rv := (some (.int r4))) (M2 := (I, L, ab_RR, n, nc, ns)) d_K_lossOf_12 ce_K_rivalOf v_1083 v_1085 v_45 (by decide) rfl (Nat.le_of_ble_eq_true rfl) hC (Nat.le_refl _) (Nat.le_refl _) hc hs (fun j h9 => by cases h9) (fun _ _ => rfl) ?_
      show ab_E w (d + 2) mt_K_lossOf 15 [.ref kx, .int v1, .null] [.int r4] (I, L, ab_RR, n, nc, ns) res
      refine ab_istore_n (i := 2) d_K_lossOf_15 rfl (by decide) (Or.inr rfl) ?_
      refine ab_iload_n (i := 2) d_K_lossOf_16 rfl rfl ?_
      refine ab_iconst (v := (-1)) d_K_lossOf_17 rfl ?_
      refine ab_icmp_ne (tgt := 25) d_K_lossOf_18 (by decide) (fun c5 => ?_) (fun c5 => ?_)
      · have h := h.1 c5
        refine ab_aload_n (i := 0) d_K_lossOf_25 rfl rfl ?_
        refine ab_getR (ci := 10) (k := 3) (j := kx_now) d_K_lossOf_26 v_475 rfl (by decide) (by decide) rfl r_kx_3 ?_
        refine ab_getR (ci := 6) (k := 0) (j := kx_now_cables) d_K_lossOf_29 v_294 rfl (by decide) (by decide) rfl r_kx_now_0 ?_
        refine ab_getR (ci := 1) (k := 5) (j := kx_now_cables_price) d_K_lossOf_32 v_224 rfl (by decide) (by decide) rfl r_kx_now_cables_5 ?_
        refine ab_iload_n (i := 2) d_K_lossOf_35 rfl rfl ?_
        have g6 := h.1; have h := h.2
        refine ab_iald d_K_lossOf_36 rfl rfl g6 ?_
        refine ab_aload_n (i := 0) d_K_lossOf_37 rfl rfl ?_
        refine ab_getR (ci := 10) (k := 3) (j := kx_now) d_K_lossOf_38 v_475 rfl (by decide) (by decide) rfl r_kx_3 ?_
        refine ab_getR (ci := 6) (k := 0) (j := kx_now_cables) d_K_lossOf_41 v_294 rfl (by decide) (by decide) rfl r_kx_now_0 ?_
        refine ab_getR (ci := 1) (k := 5) (j := kx_now_cables_price) d_K_lossOf_44 v_224 rfl (by decide) (by decide) rfl r_kx_now_cables_5 ?_
        refine ab_iload_n (i := 1) d_K_lossOf_47 rfl rfl ?_
        have g7 := h.1; have h := h.2
        refine ab_iald d_K_lossOf_48 rfl rfl g7 ?_
        refine ab_isub d_K_lossOf_49 ?_
        exact ab_iret (ty := .int) d_K_lossOf_50 rfl rfl h
      · have h := h.2 c5
        refine ab_iconst (v := (-1)) d_K_lossOf_21 rfl ?_
        refine ab_goto (tgt := 50) d_K_lossOf_22 (by decide) ?_
        exact ab_iret (ty := .int) d_K_lossOf_50 rfl rfl h
    · have h := h.2 c3
      refine ab_callV (me2 := mt_K_isOutside) (b := kx) (as := [.int v1]) (st := []) (rv := (some (.int 1))) (M2 := (I, L, ab_RR, n, nc, ns)) d_K_lossOf_2 ce_K_isOutside v_940 v_942 v_29 (by decide) rfl (Nat.le_of_ble_eq_true rfl) (cx_K_isOutside_1 v1 hT c2 (show ¬ (1 : Int32) = 0 from by decide) c3 (show (0 : Int32) = 0 from by decide)) (Nat.le_refl _) (Nat.le_refl _) hc hs (fun j h9 => by cases h9) (fun _ _ => rfl) ?_
      show ab_E w (d + 2) mt_K_lossOf 5 [.ref kx, .int v1, .null] [.int 1] (I, L, ab_RR, n, nc, ns) res
      refine ab_if_eq (tgt := 10) d_K_lossOf_5 (by decide) (fun c9 => absurd c9 (show ¬ (1 : Int32) = 0 from by decide)) (fun _ => ?_)
      refine ab_iconst (v := 0) d_K_lossOf_8 rfl ?_
      exact ab_iret (ty := .int) d_K_lossOf_9 rfl rfl h
  · have h := h.2 c2
    refine ab_callV (me2 := mt_K_isOutside) (b := kx) (as := [.int v1]) (st := []) (rv := (some (.int 0))) (M2 := (I, L, ab_RR, n, nc, ns)) d_K_lossOf_2 ce_K_isOutside v_940 v_942 v_29 (by decide) rfl (Nat.le_of_ble_eq_true rfl) (cx_K_isOutside_0 v1 hT c2 (show (0 : Int32) = 0 from by decide)) (Nat.le_refl _) (Nat.le_refl _) hc hs (fun j h9 => by cases h9) (fun _ _ => rfl) ?_
    show ab_E w (d + 2) mt_K_lossOf 5 [.ref kx, .int v1, .null] [.int 0] (I, L, ab_RR, n, nc, ns) res
    refine ab_if_eq (tgt := 10) d_K_lossOf_5 (by decide) (fun _ => ?_) (fun c9 => absurd (show (0 : Int32) = 0 from by decide) c9)
    refine ab_aload_n (i := 0) d_K_lossOf_10 rfl rfl ?_
    refine ab_iload_n (i := 1) d_K_lossOf_11 rfl rfl ?_
    obtain ⟨r8, hC, h⟩ := h
    refine ab_callV (me2 := mt_K_rivalOf) (b := kx) (as := [.int v1]) (st := []) (rv := (some (.int r8))) (M2 := (I, L, ab_RR, n, nc, ns)) d_K_lossOf_12 ce_K_rivalOf v_1083 v_1085 v_45 (by decide) rfl (Nat.le_of_ble_eq_true rfl) hC (Nat.le_refl _) (Nat.le_refl _) hc hs (fun j h9 => by cases h9) (fun _ _ => rfl) ?_
    show ab_E w (d + 2) mt_K_lossOf 15 [.ref kx, .int v1, .null] [.int r8] (I, L, ab_RR, n, nc, ns) res
    refine ab_istore_n (i := 2) d_K_lossOf_15 rfl (by decide) (Or.inr rfl) ?_
    refine ab_iload_n (i := 2) d_K_lossOf_16 rfl rfl ?_
    refine ab_iconst (v := (-1)) d_K_lossOf_17 rfl ?_
    refine ab_icmp_ne (tgt := 25) d_K_lossOf_18 (by decide) (fun c9 => ?_) (fun c9 => ?_)
    · have h := h.1 c9
      refine ab_aload_n (i := 0) d_K_lossOf_25 rfl rfl ?_
      refine ab_getR (ci := 10) (k := 3) (j := kx_now) d_K_lossOf_26 v_475 rfl (by decide) (by decide) rfl r_kx_3 ?_
      refine ab_getR (ci := 6) (k := 0) (j := kx_now_cables) d_K_lossOf_29 v_294 rfl (by decide) (by decide) rfl r_kx_now_0 ?_
      refine ab_getR (ci := 1) (k := 5) (j := kx_now_cables_price) d_K_lossOf_32 v_224 rfl (by decide) (by decide) rfl r_kx_now_cables_5 ?_
      refine ab_iload_n (i := 2) d_K_lossOf_35 rfl rfl ?_
      have g10 := h.1; have h := h.2
      refine ab_iald d_K_lossOf_36 rfl rfl g10 ?_
      refine ab_aload_n (i := 0) d_K_lossOf_37 rfl rfl ?_
      refine ab_getR (ci := 10) (k := 3) (j := kx_now) d_K_lossOf_38 v_475 rfl (by decide) (by decide) rfl r_kx_3 ?_
      refine ab_getR (ci := 6) (k := 0) (j := kx_now_cables) d_K_lossOf_41 v_294 rfl (by decide) (by decide) rfl r_kx_now_0 ?_
      refine ab_getR (ci := 1) (k := 5) (j := kx_now_cables_price) d_K_lossOf_44 v_224 rfl (by decide) (by decide) rfl r_kx_now_cables_5 ?_
      refine ab_iload_n (i := 1) d_K_lossOf_47 rfl rfl ?_
      have g11 := h.1; have h := h.2
      refine ab_iald d_K_lossOf_48 rfl rfl g11 ?_
      refine ab_isub d_K_lossOf_49 ?_
      exact ab_iret (ty := .int) d_K_lossOf_50 rfl rfl h
    · have h := h.2 c9
      refine ab_iconst (v := (-1)) d_K_lossOf_21 rfl ?_
      refine ab_goto (tgt := 50) d_K_lossOf_22 (by decide) ?_
      exact ab_iret (ty := .int) d_K_lossOf_50 rfl rfl h
theorem cx_K_swapped_0 {w : ab_Wd} {d n nc ns : Nat} {I : Nat → Nat → Int32} {L : Nat → Nat → Int64} (v1 : Int32) (v2 : Int32) (hT : w.1.stackTraces = false) (e1 : v1 = (-1)) (e2 : v2 = (-1)) : ab_C w d mt_K_swapped [.ref kx, .int v1, .int v2] (I, L, ab_RR, n, nc, ns) (.inl (some (.int (I kx_forest 2))), (I, L, ab_RR, n, nc, ns)) := by
  refine ab_C_of (by decide) rfl (Nat.le_of_ble_eq_true rfl) hT ?_
  have hc := Nat.le_refl nc
  have hs := Nat.le_refl ns
  refine ab_aload_n (i := 0) d_K_swapped_0 rfl rfl ?_
  refine ab_getR (ci := 10) (k := 6) (j := kx_forest) d_K_swapped_1 v_478 rfl (by decide) (by decide) rfl r_kx_6 ?_
  refine ab_getI (ci := 2) (k := 2) d_K_swapped_4 v_335 rfl (by decide) (by decide) rfl ?_
  refine ab_istore_n (i := 3) d_K_swapped_7 rfl (by decide) (Or.inr rfl) ?_
  refine ab_iload_n (i := 1) d_K_swapped_8 rfl rfl ?_
  refine ab_iconst (v := (-1)) d_K_swapped_9 rfl ?_
  refine ab_icmp_eq (tgt := 21) d_K_swapped_10 (by decide) (fun _ => ?_) (fun c9 => absurd e1 c9)
  refine ab_iload_n (i := 2) d_K_swapped_21 rfl rfl ?_
  refine ab_iconst (v := (-1)) d_K_swapped_22 rfl ?_
  refine ab_icmp_eq (tgt := 32) d_K_swapped_23 (by decide) (fun _ => ?_) (fun c9 => absurd e2 c9)
  refine ab_iload_n (i := 3) d_K_swapped_32 rfl rfl ?_
  exact ab_iret (ty := .int) d_K_swapped_33 rfl rfl rfl
theorem cx_K_swapped_1 {w : ab_Wd} {d n nc ns : Nat} {I : Nat → Nat → Int32} {L : Nat → Nat → Int64} (v1 : Int32) (v2 : Int32) (hT : w.1.stackTraces = false) (e1 : v1 = (-1)) (e2 : ¬ v2 = (-1)) : ab_C w d mt_K_swapped [.ref kx, .int v1, .int v2] (I, L, ab_RR, n, nc, ns) (.inl (some (.int ((I kx_forest 2) ||| ((1 : Int32) <<< (v2 &&& 31))))), (I, L, ab_RR, n, nc, ns)) := by
  refine ab_C_of (by decide) rfl (Nat.le_of_ble_eq_true rfl) hT ?_
  have hc := Nat.le_refl nc
  have hs := Nat.le_refl ns
  refine ab_aload_n (i := 0) d_K_swapped_0 rfl rfl ?_
  refine ab_getR (ci := 10) (k := 6) (j := kx_forest) d_K_swapped_1 v_478 rfl (by decide) (by decide) rfl r_kx_6 ?_
  refine ab_getI (ci := 2) (k := 2) d_K_swapped_4 v_335 rfl (by decide) (by decide) rfl ?_
  refine ab_istore_n (i := 3) d_K_swapped_7 rfl (by decide) (Or.inr rfl) ?_
  refine ab_iload_n (i := 1) d_K_swapped_8 rfl rfl ?_
  refine ab_iconst (v := (-1)) d_K_swapped_9 rfl ?_
  refine ab_icmp_eq (tgt := 21) d_K_swapped_10 (by decide) (fun _ => ?_) (fun c9 => absurd e1 c9)
  refine ab_iload_n (i := 2) d_K_swapped_21 rfl rfl ?_
  refine ab_iconst (v := (-1)) d_K_swapped_22 rfl ?_
  refine ab_icmp_eq (tgt := 32) d_K_swapped_23 (by decide) (fun c9 => absurd c9 e2) (fun _ => ?_)
  refine ab_iload_n (i := 3) d_K_swapped_26 rfl rfl ?_
  refine ab_iconst (v := 1) d_K_swapped_27 rfl ?_
  refine ab_iload_n (i := 2) d_K_swapped_28 rfl rfl ?_
  refine ab_ishl d_K_swapped_29 ?_
  refine ab_ior d_K_swapped_30 ?_
  refine ab_istore_n (i := 3) d_K_swapped_31 rfl (by decide) (Or.inr rfl) ?_
  refine ab_iload_n (i := 3) d_K_swapped_32 rfl rfl ?_
  exact ab_iret (ty := .int) d_K_swapped_33 rfl rfl rfl
theorem cx_K_swapped_2 {w : ab_Wd} {d n nc ns : Nat} {I : Nat → Nat → Int32} {L : Nat → Nat → Int64} (v1 : Int32) (v2 : Int32) (hT : w.1.stackTraces = false) (e1 : ¬ v1 = (-1)) (e2 : v2 = (-1)) : ab_C w d mt_K_swapped [.ref kx, .int v1, .int v2] (I, L, ab_RR, n, nc, ns) (.inl (some (.int ((I kx_forest 2) &&& (((1 : Int32) <<< (v1 &&& 31)) ^^^ (-1))))), (I, L, ab_RR, n, nc, ns)) := by
  refine ab_C_of (by decide) rfl (Nat.le_of_ble_eq_true rfl) hT ?_
  have hc := Nat.le_refl nc
  have hs := Nat.le_refl ns
  refine ab_aload_n (i := 0) d_K_swapped_0 rfl rfl ?_
  refine ab_getR (ci := 10) (k := 6) (j := kx_forest) d_K_swapped_1 v_478 rfl (by decide) (by decide) rfl r_kx_6 ?_
  refine ab_getI (ci := 2) (k := 2) d_K_swapped_4 v_335 rfl (by decide) (by decide) rfl ?_
  refine ab_istore_n (i := 3) d_K_swapped_7 rfl (by decide) (Or.inr rfl) ?_
  refine ab_iload_n (i := 1) d_K_swapped_8 rfl rfl ?_
  refine ab_iconst (v := (-1)) d_K_swapped_9 rfl ?_
  refine ab_icmp_eq (tgt := 21) d_K_swapped_10 (by decide) (fun c9 => absurd c9 e1) (fun _ => ?_)
  refine ab_iload_n (i := 3) d_K_swapped_13 rfl rfl ?_
  refine ab_iconst (v := 1) d_K_swapped_14 rfl ?_
  refine ab_iload_n (i := 1) d_K_swapped_15 rfl rfl ?_
  refine ab_ishl d_K_swapped_16 ?_
  refine ab_iconst (v := (-1)) d_K_swapped_17 rfl ?_
  refine ab_ixor d_K_swapped_18 ?_
  refine ab_iand d_K_swapped_19 ?_
  refine ab_istore_n (i := 3) d_K_swapped_20 rfl (by decide) (Or.inr rfl) ?_
  refine ab_iload_n (i := 2) d_K_swapped_21 rfl rfl ?_
  refine ab_iconst (v := (-1)) d_K_swapped_22 rfl ?_
  refine ab_icmp_eq (tgt := 32) d_K_swapped_23 (by decide) (fun _ => ?_) (fun c9 => absurd e2 c9)
  refine ab_iload_n (i := 3) d_K_swapped_32 rfl rfl ?_
  exact ab_iret (ty := .int) d_K_swapped_33 rfl rfl rfl
theorem cx_K_swapped_3 {w : ab_Wd} {d n nc ns : Nat} {I : Nat → Nat → Int32} {L : Nat → Nat → Int64} (v1 : Int32) (v2 : Int32) (hT : w.1.stackTraces = false) (e1 : ¬ v1 = (-1)) (e2 : ¬ v2 = (-1)) : ab_C w d mt_K_swapped [.ref kx, .int v1, .int v2] (I, L, ab_RR, n, nc, ns) (.inl (some (.int (((I kx_forest 2) &&& (((1 : Int32) <<< (v1 &&& 31)) ^^^ (-1))) ||| ((1 : Int32) <<< (v2 &&& 31))))), (I, L, ab_RR, n, nc, ns)) := by
  refine ab_C_of (by decide) rfl (Nat.le_of_ble_eq_true rfl) hT ?_
  have hc := Nat.le_refl nc
  have hs := Nat.le_refl ns
  refine ab_aload_n (i := 0) d_K_swapped_0 rfl rfl ?_
  refine ab_getR (ci := 10) (k := 6) (j := kx_forest) d_K_swapped_1 v_478 rfl (by decide) (by decide) rfl r_kx_6 ?_
  refine ab_getI (ci := 2) (k := 2) d_K_swapped_4 v_335 rfl (by decide) (by decide) rfl ?_
  refine ab_istore_n (i := 3) d_K_swapped_7 rfl (by decide) (Or.inr rfl) ?_
  refine ab_iload_n (i := 1) d_K_swapped_8 rfl rfl ?_
  refine ab_iconst (v := (-1)) d_K_swapped_9 rfl ?_
  refine ab_icmp_eq (tgt := 21) d_K_swapped_10 (by decide) (fun c9 => absurd c9 e1) (fun _ => ?_)
  refine ab_iload_n (i := 3) d_K_swapped_13 rfl rfl ?_
  refine ab_iconst (v := 1) d_K_swapped_14 rfl ?_
  refine ab_iload_n (i := 1) d_K_swapped_15 rfl rfl ?_
  refine ab_ishl d_K_swapped_16 ?_
  refine ab_iconst (v := (-1)) d_K_swapped_17 rfl ?_
  refine ab_ixor d_K_swapped_18 ?_
  refine ab_iand d_K_swapped_19 ?_
  refine ab_istore_n (i := 3) d_K_swapped_20 rfl (by decide) (Or.inr rfl) ?_
  refine ab_iload_n (i := 2) d_K_swapped_21 rfl rfl ?_
  refine ab_iconst (v := (-1)) d_K_swapped_22 rfl ?_
  refine ab_icmp_eq (tgt := 32) d_K_swapped_23 (by decide) (fun c9 => absurd c9 e2) (fun _ => ?_)
  refine ab_iload_n (i := 3) d_K_swapped_26 rfl rfl ?_
  refine ab_iconst (v := 1) d_K_swapped_27 rfl ?_
  refine ab_iload_n (i := 2) d_K_swapped_28 rfl rfl ?_
  refine ab_ishl d_K_swapped_29 ?_
  refine ab_ior d_K_swapped_30 ?_
  refine ab_istore_n (i := 3) d_K_swapped_31 rfl (by decide) (Or.inr rfl) ?_
  refine ab_iload_n (i := 3) d_K_swapped_32 rfl rfl ?_
  exact ab_iret (ty := .int) d_K_swapped_33 rfl rfl rfl
theorem r_K_netWith_0 {w : ab_Wd} {d n nc ns : Nat} {I : Nat → Nat → Int32} {L : Nat → Nat → Int64} {res : ab_Re} (hT : w.1.stackTraces = false) (v1 : Int32) (hc : nc ≤ res.2.2.2.2.2.1) (hs : ns ≤ res.2.2.2.2.2.2)
    (h : (((((I kx_forest 2) >>> (v1 &&& 31)) &&& 1) = 1 → (res = (.inl (some (.int (I kx_forest 2))), (I, L, ab_RR, n, nc, ns)))) ∧ (¬ (((I kx_forest 2) >>> (v1 &&& 31)) &&& 1) = 1 → (((((I kx_now_cables 2) >>> (v1 &&& 31)) &&& 1) = 1 → ((vp_in v1 24) ∧ (vp_in (((I kx_now_cables_first v1.toNatClampNeg) * 10) + (I kx_now_cables_second v1.toNatClampNeg)) 100) ∧ (((I kx_ways_dearest (((I kx_now_cables_first v1.toNatClampNeg) * 10) + (I kx_now_cables_second v1.toNatClampNeg)).toNatClampNeg) = (-1) → ((v1 = (-1) → (res = (.inl (some (.int (I kx_forest 2))), (I, L, ab_RR, n, nc, ns)))) ∧ (¬ v1 = (-1) → (res = (.inl (some (.int ((I kx_forest 2) ||| ((1 : Int32) <<< (v1 &&& 31))))), (I, L, ab_RR, n, nc, ns)))))) ∧ (¬ (I kx_ways_dearest (((I kx_now_cables_first v1.toNatClampNeg) * 10) + (I kx_now_cables_second v1.toNatClampNeg)).toNatClampNeg) = (-1) → ((v1 = (-1) → (res = (.inl (some (.int ((I kx_forest 2) &&& (((1 : Int32) <<< ((I kx_ways_dearest (((I kx_now_cables_first v1.toNatClampNeg) * 10) + (I kx_now_cables_second v1.toNatClampNeg)).toNatClampNeg) &&& 31)) ^^^ (-1))))), (I, L, ab_RR, n, nc, ns)))) ∧ (¬ v1 = (-1) → (res = (.inl (some (.int (((I kx_forest 2) &&& (((1 : Int32) <<< ((I kx_ways_dearest (((I kx_now_cables_first v1.toNatClampNeg) * 10) + (I kx_now_cables_second v1.toNatClampNeg)).toNatClampNeg) &&& 31)) ^^^ (-1))) ||| ((1 : Int32) <<< (v1 &&& 31))))), (I, L, ab_RR, n, nc, ns))))))))) ∧ (¬ (((I kx_now_cables 2) >>> (v1 &&& 31)) &&& 1) = 1 → ((v1 = (-1) → (res = (.inl (some (.int (I kx_forest 2))), (I, L, ab_RR, n, nc, ns)))) ∧ (¬ v1 = (-1) → (res = (.inl (some (.int ((I kx_forest 2) ||| ((1 : Int32) <<< (v1 &&& 31))))), (I, L, ab_RR, n, nc, ns)))))))))) : ab_E w (d + 3) mt_K_netWith 0 [.ref kx, .int v1] [] (I, L, ab_RR, n, nc, ns) res := by
  refine ab_aload_n (i := 0) d_K_netWith_0 rfl rfl ?_
  refine ab_iload_n (i := 1) d_K_netWith_1 rfl rfl ?_
  by_cases c2 : (((I kx_forest 2) >>> (v1 &&& 31)) &&& 1) = 1
  · have h := h.1 c2
    refine ab_callV (me2 := mt_K_isInside) (b := kx) (as := [.int v1]) (st := []) (rv := (some (.int 1))) (M2 := (I, L, ab_RR, n, nc, ns)) d_K_netWith_2 ce_K_isInside v_944 v_946 v_30 (by decide) rfl (Nat.le_of_ble_eq_true rfl) (cx_K_isInside_1 v1 hT c2) (Nat.le_refl _) (Nat.le_refl _) hc hs (fun j h9 => by cases h9) (fun _ _ => rfl) ?_
    show ab_E w (d + 3) mt_K_netWith 5 [.ref kx, .int v1] [.int 1] (I, L, ab_RR, n, nc, ns) res
    refine ab_if_eq (tgt := 16) d_K_netWith_5 (by decide) (fun c9 => absurd c9 (show ¬ (1 : Int32) = 0 from by decide)) (fun _ => ?_)
    refine ab_aload_n (i := 0) d_K_netWith_8 rfl rfl ?_
    refine ab_getR (ci := 10) (k := 6) (j := kx_forest) d_K_netWith_9 v_478 rfl (by decide) (by decide) rfl r_kx_6 ?_
    refine ab_getI (ci := 2) (k := 2) d_K_netWith_12 v_335 rfl (by decide) (by decide) rfl ?_
    exact ab_iret (ty := .int) d_K_netWith_15 rfl rfl h
  · have h := h.2 c2
    refine ab_callV (me2 := mt_K_isInside) (b := kx) (as := [.int v1]) (st := []) (rv := (some (.int 0))) (M2 := (I, L, ab_RR, n, nc, ns)) d_K_netWith_2 ce_K_isInside v_944 v_946 v_30 (by decide) rfl (Nat.le_of_ble_eq_true rfl) (cx_K_isInside_0 v1 hT c2) (Nat.le_refl _) (Nat.le_refl _) hc hs (fun j h9 => by cases h9) (fun _ _ => rfl) ?_
    show ab_E w (d + 3) mt_K_netWith 5 [.ref kx, .int v1] [.int 0] (I, L, ab_RR, n, nc, ns) res
    refine ab_if_eq (tgt := 16) d_K_netWith_5 (by decide) (fun _ => ?_) (fun c9 => absurd (show (0 : Int32) = 0 from by decide) c9)
    refine ab_aload_n (i := 0) d_K_netWith_16 rfl rfl ?_
    refine ab_aload_n (i := 0) d_K_netWith_17 rfl rfl ?_
    refine ab_iload_n (i := 1) d_K_netWith_18 rfl rfl ?_
    by_cases c4 : (((I kx_now_cables 2) >>> (v1 &&& 31)) &&& 1) = 1
    · have h := h.1 c4
      have g5 := h.1; have h := h.2
      have g6 := h.1; have h := h.2
      refine ab_callV (me2 := mt_K_dearestOf) (b := kx) (as := [.int v1]) (st := [.ref kx]) (rv := (some (.int (I kx_ways_dearest (((I kx_now_cables_first v1.toNatClampNeg) * 10) + (I kx_now_cables_second v1.toNatClampNeg)).toNatClampNeg)))) (M2 := (I, L, ab_RR, n, nc, ns)) d_K_netWith_19 ce_K_dearestOf v_936 v_938 v_28 (by decide) rfl (Nat.le_of_ble_eq_true rfl) (cx_K_dearestOf_1 v1 hT c4 (show ¬ (1 : Int32) = 0 from by decide) c2 (show (0 : Int32) = 0 from by decide) (show ¬ (1 : Int32) = 0 from by decide) g5 g5 g6) (Nat.le_refl _) (Nat.le_refl _) hc hs (fun j h9 => by cases h9) (fun _ _ => rfl) ?_
      show ab_E w (d + 3) mt_K_netWith 22 [.ref kx, .int v1] [.int (I kx_ways_dearest (((I kx_now_cables_first v1.toNatClampNeg) * 10) + (I kx_now_cables_second v1.toNatClampNeg)).toNatClampNeg), .ref kx] (I, L, ab_RR, n, nc, ns) res
      refine ab_iload_n (i := 1) d_K_netWith_22 rfl rfl ?_
      by_cases c8 : (I kx_ways_dearest (((I kx_now_cables_first v1.toNatClampNeg) * 10) + (I kx_now_cables_second v1.toNatClampNeg)).toNatClampNeg) = (-1)
      · have h := h.1 c8
        by_cases c9 : v1 = (-1)
        · have h := h.1 c9
          refine ab_callV (me2 := mt_K_swapped) (b := kx) (as := [.int (I kx_ways_dearest (((I kx_now_cables_first v1.toNatClampNeg) * 10) + (I kx_now_cables_second v1.toNatClampNeg)).toNatClampNeg), .int v1]) (st := []) (rv := (some (.int (I kx_forest 2)))) (M2 := (I, L, ab_RR, n, nc, ns)) d_K_netWith_23 ce_K_swapped v_1320 v_1322 v_63 (by decide) rfl (Nat.le_of_ble_eq_true rfl) (cx_K_swapped_0 (I kx_ways_dearest (((I kx_now_cables_first v1.toNatClampNeg) * 10) + (I kx_now_cables_second v1.toNatClampNeg)).toNatClampNeg) v1 hT c8 c9) (Nat.le_refl _) (Nat.le_refl _) hc hs (fun j h9 => by cases h9) (fun _ _ => rfl) ?_
          show ab_E w (d + 3) mt_K_netWith 26 [.ref kx, .int v1] [.int (I kx_forest 2)] (I, L, ab_RR, n, nc, ns) res
          exact ab_iret (ty := .int) d_K_netWith_26 rfl rfl h
        · have h := h.2 c9
          refine ab_callV (me2 := mt_K_swapped) (b := kx) (as := [.int (I kx_ways_dearest (((I kx_now_cables_first v1.toNatClampNeg) * 10) + (I kx_now_cables_second v1.toNatClampNeg)).toNatClampNeg), .int v1]) (st := []) (rv := (some (.int ((I kx_forest 2) ||| ((1 : Int32) <<< (v1 &&& 31)))))) (M2 := (I, L, ab_RR, n, nc, ns)) d_K_netWith_23 ce_K_swapped v_1320 v_1322 v_63 (by decide) rfl (Nat.le_of_ble_eq_true rfl) (cx_K_swapped_1 (I kx_ways_dearest (((I kx_now_cables_first v1.toNatClampNeg) * 10) + (I kx_now_cables_second v1.toNatClampNeg)).toNatClampNeg) v1 hT c8 c9) (Nat.le_refl _) (Nat.le_refl _) hc hs (fun j h9 => by cases h9) (fun _ _ => rfl) ?_
          show ab_E w (d + 3) mt_K_netWith 26 [.ref kx, .int v1] [.int ((I kx_forest 2) ||| ((1 : Int32) <<< (v1 &&& 31)))] (I, L, ab_RR, n, nc, ns) res
          exact ab_iret (ty := .int) d_K_netWith_26 rfl rfl h
      · have h := h.2 c8
        by_cases c10 : v1 = (-1)
        · have h := h.1 c10
          refine ab_callV (me2 := mt_K_swapped) (b := kx) (as := [.int (I kx_ways_dearest (((I kx_now_cables_first v1.toNatClampNeg) * 10) + (I kx_now_cables_second v1.toNatClampNeg)).toNatClampNeg), .int v1]) (st := []) (rv := (some (.int ((I kx_forest 2) &&& (((1 : Int32) <<< ((I kx_ways_dearest (((I kx_now_cables_first v1.toNatClampNeg) * 10) + (I kx_now_cables_second v1.toNatClampNeg)).toNatClampNeg) &&& 31)) ^^^ (-1)))))) (M2 := (I, L, ab_RR, n, nc, ns)) d_K_netWith_23 ce_K_swapped v_1320 v_1322 v_63 (by decide) rfl (Nat.le_of_ble_eq_true rfl) (cx_K_swapped_2 (I kx_ways_dearest (((I kx_now_cables_first v1.toNatClampNeg) * 10) + (I kx_now_cables_second v1.toNatClampNeg)).toNatClampNeg) v1 hT c8 c10) (Nat.le_refl _) (Nat.le_refl _) hc hs (fun j h9 => by cases h9) (fun _ _ => rfl) ?_
          show ab_E w (d + 3) mt_K_netWith 26 [.ref kx, .int v1] [.int ((I kx_forest 2) &&& (((1 : Int32) <<< ((I kx_ways_dearest (((I kx_now_cables_first v1.toNatClampNeg) * 10) + (I kx_now_cables_second v1.toNatClampNeg)).toNatClampNeg) &&& 31)) ^^^ (-1)))] (I, L, ab_RR, n, nc, ns) res
          exact ab_iret (ty := .int) d_K_netWith_26 rfl rfl h
        · have h := h.2 c10
          refine ab_callV (me2 := mt_K_swapped) (b := kx) (as := [.int (I kx_ways_dearest (((I kx_now_cables_first v1.toNatClampNeg) * 10) + (I kx_now_cables_second v1.toNatClampNeg)).toNatClampNeg), .int v1]) (st := []) (rv := (some (.int (((I kx_forest 2) &&& (((1 : Int32) <<< ((I kx_ways_dearest (((I kx_now_cables_first v1.toNatClampNeg) * 10) + (I kx_now_cables_second v1.toNatClampNeg)).toNatClampNeg) &&& 31)) ^^^ (-1))) ||| ((1 : Int32) <<< (v1 &&& 31)))))) (M2 := (I, L, ab_RR, n, nc, ns)) d_K_netWith_23 ce_K_swapped v_1320 v_1322 v_63 (by decide) rfl (Nat.le_of_ble_eq_true rfl) (cx_K_swapped_3 (I kx_ways_dearest (((I kx_now_cables_first v1.toNatClampNeg) * 10) + (I kx_now_cables_second v1.toNatClampNeg)).toNatClampNeg) v1 hT c8 c10) (Nat.le_refl _) (Nat.le_refl _) hc hs (fun j h9 => by cases h9) (fun _ _ => rfl) ?_
          show ab_E w (d + 3) mt_K_netWith 26 [.ref kx, .int v1] [.int (((I kx_forest 2) &&& (((1 : Int32) <<< ((I kx_ways_dearest (((I kx_now_cables_first v1.toNatClampNeg) * 10) + (I kx_now_cables_second v1.toNatClampNeg)).toNatClampNeg) &&& 31)) ^^^ (-1))) ||| ((1 : Int32) <<< (v1 &&& 31)))] (I, L, ab_RR, n, nc, ns) res
          exact ab_iret (ty := .int) d_K_netWith_26 rfl rfl h
    · have h := h.2 c4
      refine ab_callV (me2 := mt_K_dearestOf) (b := kx) (as := [.int v1]) (st := [.ref kx]) (rv := (some (.int (-1)))) (M2 := (I, L, ab_RR, n, nc, ns)) d_K_netWith_19 ce_K_dearestOf v_936 v_938 v_28 (by decide) rfl (Nat.le_of_ble_eq_true rfl) (cx_K_dearestOf_0 v1 hT c4 (show (0 : Int32) = 0 from by decide) (show (0 : Int32) = 0 from by decide)) (Nat.le_refl _) (Nat.le_refl _) hc hs (fun j h9 => by cases h9) (fun _ _ => rfl) ?_
      show ab_E w (d + 3) mt_K_netWith 22 [.ref kx, .int v1] [.int (-1), .ref kx] (I, L, ab_RR, n, nc, ns) res
      refine ab_iload_n (i := 1) d_K_netWith_22 rfl rfl ?_
      by_cases c12 : v1 = (-1)
      · have h := h.1 c12
        refine ab_callV (me2 := mt_K_swapped) (b := kx) (as := [.int (-1), .int v1]) (st := []) (rv := (some (.int (I kx_forest 2)))) (M2 := (I, L, ab_RR, n, nc, ns)) d_K_netWith_23 ce_K_swapped v_1320 v_1322 v_63 (by decide) rfl (Nat.le_of_ble_eq_true rfl) (cx_K_swapped_0 (-1) v1 hT (show ((-1) : Int32) = (-1) from by decide) c12) (Nat.le_refl _) (Nat.le_refl _) hc hs (fun j h9 => by cases h9) (fun _ _ => rfl) ?_
        show ab_E w (d + 3) mt_K_netWith 26 [.ref kx, .int v1] [.int (I kx_forest 2)] (I, L, ab_RR, n, nc, ns) res
        exact ab_iret (ty := .int) d_K_netWith_26 rfl rfl h
      · have h := h.2 c12
        refine ab_callV (me2 := mt_K_swapped) (b := kx) (as := [.int (-1), .int v1]) (st := []) (rv := (some (.int ((I kx_forest 2) ||| ((1 : Int32) <<< (v1 &&& 31)))))) (M2 := (I, L, ab_RR, n, nc, ns)) d_K_netWith_23 ce_K_swapped v_1320 v_1322 v_63 (by decide) rfl (Nat.le_of_ble_eq_true rfl) (cx_K_swapped_1 (-1) v1 hT (show ((-1) : Int32) = (-1) from by decide) c12) (Nat.le_refl _) (Nat.le_refl _) hc hs (fun j h9 => by cases h9) (fun _ _ => rfl) ?_
        show ab_E w (d + 3) mt_K_netWith 26 [.ref kx, .int v1] [.int ((I kx_forest 2) ||| ((1 : Int32) <<< (v1 &&& 31)))] (I, L, ab_RR, n, nc, ns) res
        exact ab_iret (ty := .int) d_K_netWith_26 rfl rfl h
theorem r_K_netWithout_0 {w : ab_Wd} {d n nc ns : Nat} {I : Nat → Nat → Int32} {L : Nat → Nat → Int64} {res : ab_Re} (hT : w.1.stackTraces = false) (v1 : Int32) (hc : nc ≤ res.2.2.2.2.2.1) (hs : ns ≤ res.2.2.2.2.2.2)
    (h : (((((I kx_forest 2) >>> (v1 &&& 31)) &&& 1) = 1 → (∃ (r3 : Int32), ab_C w d mt_K_rivalOf [.ref kx, .int v1] (I, L, ab_RR, n, nc, ns) (.inl (some (.int r3)), (I, L, ab_RR, n, nc, ns)) ∧ ((v1 = (-1) → ((r3 = (-1) → (res = (.inl (some (.int (I kx_forest 2))), (I, L, ab_RR, n, nc, ns)))) ∧ (¬ r3 = (-1) → (res = (.inl (some (.int ((I kx_forest 2) ||| ((1 : Int32) <<< (r3 &&& 31))))), (I, L, ab_RR, n, nc, ns)))))) ∧ (¬ v1 = (-1) → ((r3 = (-1) → (res = (.inl (some (.int ((I kx_forest 2) &&& (((1 : Int32) <<< (v1 &&& 31)) ^^^ (-1))))), (I, L, ab_RR, n, nc, ns)))) ∧ (¬ r3 = (-1) → (res = (.inl (some (.int (((I kx_forest 2) &&& (((1 : Int32) <<< (v1 &&& 31)) ^^^ (-1))) ||| ((1 : Int32) <<< (r3 &&& 31))))), (I, L, ab_RR, n, nc, ns))))))))) ∧ (¬ (((I kx_forest 2) >>> (v1 &&& 31)) &&& 1) = 1 → (res = (.inl (some (.int (I kx_forest 2))), (I, L, ab_RR, n, nc, ns)))))) : ab_E w (d + 1) mt_K_netWithout 0 [.ref kx, .int v1] [] (I, L, ab_RR, n, nc, ns) res := by
  refine ab_aload_n (i := 0) d_K_netWithout_0 rfl rfl ?_
  refine ab_iload_n (i := 1) d_K_netWithout_1 rfl rfl ?_
  by_cases c2 : (((I kx_forest 2) >>> (v1 &&& 31)) &&& 1) = 1
  · have h := h.1 c2
    refine ab_callV (me2 := mt_K_isInside) (b := kx) (as := [.int v1]) (st := []) (rv := (some (.int 1))) (M2 := (I, L, ab_RR, n, nc, ns)) d_K_netWithout_2 ce_K_isInside v_944 v_946 v_30 (by decide) rfl (Nat.le_of_ble_eq_true rfl) (cx_K_isInside_1 v1 hT c2) (Nat.le_refl _) (Nat.le_refl _) hc hs (fun j h9 => by cases h9) (fun _ _ => rfl) ?_
    show ab_E w (d + 1) mt_K_netWithout 5 [.ref kx, .int v1] [.int 1] (I, L, ab_RR, n, nc, ns) res
    refine ab_if_eq (tgt := 19) d_K_netWithout_5 (by decide) (fun c9 => absurd c9 (show ¬ (1 : Int32) = 0 from by decide)) (fun _ => ?_)
    refine ab_aload_n (i := 0) d_K_netWithout_8 rfl rfl ?_
    refine ab_iload_n (i := 1) d_K_netWithout_9 rfl rfl ?_
    refine ab_aload_n (i := 0) d_K_netWithout_10 rfl rfl ?_
    refine ab_iload_n (i := 1) d_K_netWithout_11 rfl rfl ?_
    obtain ⟨r3, hC, h⟩ := h
    refine ab_callV (me2 := mt_K_rivalOf) (b := kx) (as := [.int v1]) (st := [.int v1, .ref kx]) (rv := (some (.int r3))) (M2 := (I, L, ab_RR, n, nc, ns)) d_K_netWithout_12 ce_K_rivalOf v_1083 v_1085 v_45 (by decide) rfl (Nat.le_of_ble_eq_true rfl) hC (Nat.le_refl _) (Nat.le_refl _) hc hs (fun j h9 => by cases h9) (fun _ _ => rfl) ?_
    show ab_E w (d + 1) mt_K_netWithout 15 [.ref kx, .int v1] [.int r3, .int v1, .ref kx] (I, L, ab_RR, n, nc, ns) res
    by_cases c5 : v1 = (-1)
    · have h := h.1 c5
      by_cases c6 : r3 = (-1)
      · have h := h.1 c6
        refine ab_callV (me2 := mt_K_swapped) (b := kx) (as := [.int v1, .int r3]) (st := []) (rv := (some (.int (I kx_forest 2)))) (M2 := (I, L, ab_RR, n, nc, ns)) d_K_netWithout_15 ce_K_swapped v_1320 v_1322 v_63 (by decide) rfl (Nat.le_of_ble_eq_true rfl) (cx_K_swapped_0 v1 r3 hT c5 c6) (Nat.le_refl _) (Nat.le_refl _) hc hs (fun j h9 => by cases h9) (fun _ _ => rfl) ?_
        show ab_E w (d + 1) mt_K_netWithout 18 [.ref kx, .int v1] [.int (I kx_forest 2)] (I, L, ab_RR, n, nc, ns) res
        exact ab_iret (ty := .int) d_K_netWithout_18 rfl rfl h
      · have h := h.2 c6
        refine ab_callV (me2 := mt_K_swapped) (b := kx) (as := [.int v1, .int r3]) (st := []) (rv := (some (.int ((I kx_forest 2) ||| ((1 : Int32) <<< (r3 &&& 31)))))) (M2 := (I, L, ab_RR, n, nc, ns)) d_K_netWithout_15 ce_K_swapped v_1320 v_1322 v_63 (by decide) rfl (Nat.le_of_ble_eq_true rfl) (cx_K_swapped_1 v1 r3 hT c5 c6) (Nat.le_refl _) (Nat.le_refl _) hc hs (fun j h9 => by cases h9) (fun _ _ => rfl) ?_
        show ab_E w (d + 1) mt_K_netWithout 18 [.ref kx, .int v1] [.int ((I kx_forest 2) ||| ((1 : Int32) <<< (r3 &&& 31)))] (I, L, ab_RR, n, nc, ns) res
        exact ab_iret (ty := .int) d_K_netWithout_18 rfl rfl h
    · have h := h.2 c5
      by_cases c7 : r3 = (-1)
      · have h := h.1 c7
        refine ab_callV (me2 := mt_K_swapped) (b := kx) (as := [.int v1, .int r3]) (st := []) (rv := (some (.int ((I kx_forest 2) &&& (((1 : Int32) <<< (v1 &&& 31)) ^^^ (-1)))))) (M2 := (I, L, ab_RR, n, nc, ns)) d_K_netWithout_15 ce_K_swapped v_1320 v_1322 v_63 (by decide) rfl (Nat.le_of_ble_eq_true rfl) (cx_K_swapped_2 v1 r3 hT c5 c7) (Nat.le_refl _) (Nat.le_refl _) hc hs (fun j h9 => by cases h9) (fun _ _ => rfl) ?_
        show ab_E w (d + 1) mt_K_netWithout 18 [.ref kx, .int v1] [.int ((I kx_forest 2) &&& (((1 : Int32) <<< (v1 &&& 31)) ^^^ (-1)))] (I, L, ab_RR, n, nc, ns) res
        exact ab_iret (ty := .int) d_K_netWithout_18 rfl rfl h
      · have h := h.2 c7
        refine ab_callV (me2 := mt_K_swapped) (b := kx) (as := [.int v1, .int r3]) (st := []) (rv := (some (.int (((I kx_forest 2) &&& (((1 : Int32) <<< (v1 &&& 31)) ^^^ (-1))) ||| ((1 : Int32) <<< (r3 &&& 31)))))) (M2 := (I, L, ab_RR, n, nc, ns)) d_K_netWithout_15 ce_K_swapped v_1320 v_1322 v_63 (by decide) rfl (Nat.le_of_ble_eq_true rfl) (cx_K_swapped_3 v1 r3 hT c5 c7) (Nat.le_refl _) (Nat.le_refl _) hc hs (fun j h9 => by cases h9) (fun _ _ => rfl) ?_
        show ab_E w (d + 1) mt_K_netWithout 18 [.ref kx, .int v1] [.int (((I kx_forest 2) &&& (((1 : Int32) <<< (v1 &&& 31)) ^^^ (-1))) ||| ((1 : Int32) <<< (r3 &&& 31)))] (I, L, ab_RR, n, nc, ns) res
        exact ab_iret (ty := .int) d_K_netWithout_18 rfl rfl h
  · have h := h.2 c2
    refine ab_callV (me2 := mt_K_isInside) (b := kx) (as := [.int v1]) (st := []) (rv := (some (.int 0))) (M2 := (I, L, ab_RR, n, nc, ns)) d_K_netWithout_2 ce_K_isInside v_944 v_946 v_30 (by decide) rfl (Nat.le_of_ble_eq_true rfl) (cx_K_isInside_0 v1 hT c2) (Nat.le_refl _) (Nat.le_refl _) hc hs (fun j h9 => by cases h9) (fun _ _ => rfl) ?_
    show ab_E w (d + 1) mt_K_netWithout 5 [.ref kx, .int v1] [.int 0] (I, L, ab_RR, n, nc, ns) res
    refine ab_if_eq (tgt := 19) d_K_netWithout_5 (by decide) (fun _ => ?_) (fun c9 => absurd (show (0 : Int32) = 0 from by decide) c9)
    refine ab_aload_n (i := 0) d_K_netWithout_19 rfl rfl ?_
    refine ab_getR (ci := 10) (k := 6) (j := kx_forest) d_K_netWithout_20 v_478 rfl (by decide) (by decide) rfl r_kx_6 ?_
    refine ab_getI (ci := 2) (k := 2) d_K_netWithout_23 v_335 rfl (by decide) (by decide) rfl ?_
    exact ab_iret (ty := .int) d_K_netWithout_26 rfl rfl h
theorem r_K_nextBest_0 {w : ab_Wd} {d n nc ns : Nat} {I : Nat → Nat → Int32} {L : Nat → Nat → Int64} {res : ab_Re} (hT : w.1.stackTraces = false)  (hc : nc ≤ res.2.2.2.2.2.1) (hs : ns ≤ res.2.2.2.2.2.2)
    (h : ab_E w (d + 3) mt_K_nextBest 4 [.ref kx, .int (-1), .int 0, .null, .null] [] (I, L, ab_RR, n, nc, ns) res) : ab_E w (d + 3) mt_K_nextBest 0 [.ref kx, .null, .null, .null, .null] [] (I, L, ab_RR, n, nc, ns) res := by
  refine ab_iconst (v := (-1)) d_K_nextBest_0 rfl ?_
  refine ab_istore_n (i := 1) d_K_nextBest_1 rfl (by decide) (Or.inr rfl) ?_
  refine ab_iconst (v := 0) d_K_nextBest_2 rfl ?_
  refine ab_istore_n (i := 2) d_K_nextBest_3 rfl (by decide) (Or.inr rfl) ?_
  exact h
theorem r_K_nextBest_4 {w : ab_Wd} {d n nc ns : Nat} {I : Nat → Nat → Int32} {L : Nat → Nat → Int64} {res : ab_Re} (hT : w.1.stackTraces = false) (v1 : Int32) (v2 : Int32) (hc : nc ≤ res.2.2.2.2.2.1) (hs : ns ≤ res.2.2.2.2.2.2)
    (h : (((I kx_now_cables 1) ≤ v2 → (res = (.inl (some (.int v1)), (I, L, ab_RR, n, nc, ns)))) ∧ (¬ (I kx_now_cables 1) ≤ v2 → (((((I kx_now_cables 2) >>> (v2 &&& 31)) &&& 1) = 1 → (((((I kx_forest 2) >>> (v2 &&& 31)) &&& 1) = 1 → (ab_E w (d + 3) mt_K_nextBest 4 [.ref kx, .int v1, .int (v2 + 1), .null, .null] [] (I, L, ab_RR, n, nc, ns) res)) ∧ (¬ (((I kx_forest 2) >>> (v2 &&& 31)) &&& 1) = 1 → ((vp_in v2 24) ∧ (vp_in (((I kx_now_cables_first v2.toNatClampNeg) * 10) + (I kx_now_cables_second v2.toNatClampNeg)) 100) ∧ (((I kx_ways_dearest (((I kx_now_cables_first v2.toNatClampNeg) * 10) + (I kx_now_cables_second v2.toNatClampNeg)).toNatClampNeg) = (-1) → (ab_E w (d + 3) mt_K_nextBest 4 [.ref kx, .int v1, .int (v2 + 1), .null, .null] [] (I, L, ab_RR, n, nc, ns) res)) ∧ (¬ (I kx_ways_dearest (((I kx_now_cables_first v2.toNatClampNeg) * 10) + (I kx_now_cables_second v2.toNatClampNeg)).toNatClampNeg) = (-1) → ((vp_in (I kx_ways_dearest (((I kx_now_cables_first v2.toNatClampNeg) * 10) + (I kx_now_cables_second v2.toNatClampNeg)).toNatClampNeg) 24) ∧ ((¬ v1 = (-1) → (ab_E w (d + 3) mt_K_nextBest 4 [.ref kx, .int (ab_min32 v1 (((I kx_forest 3) + (I kx_now_cables_price v2.toNatClampNeg)) - (I kx_now_cables_price (I kx_ways_dearest (((I kx_now_cables_first v2.toNatClampNeg) * 10) + (I kx_now_cables_second v2.toNatClampNeg)).toNatClampNeg).toNatClampNeg))), .int (v2 + 1), .null, .null] [] (I, L, ab_RR, n, nc, ns) res)) ∧ (v1 = (-1) → (ab_E w (d + 3) mt_K_nextBest 4 [.ref kx, .int (((I kx_forest 3) + (I kx_now_cables_price v2.toNatClampNeg)) - (I kx_now_cables_price (I kx_ways_dearest (((I kx_now_cables_first v2.toNatClampNeg) * 10) + (I kx_now_cables_second v2.toNatClampNeg)).toNatClampNeg).toNatClampNeg)), .int (v2 + 1), .null, .null] [] (I, L, ab_RR, n, nc, ns) res)))))))))) ∧ (¬ (((I kx_now_cables 2) >>> (v2 &&& 31)) &&& 1) = 1 → (ab_E w (d + 3) mt_K_nextBest 4 [.ref kx, .int v1, .int (v2 + 1), .null, .null] [] (I, L, ab_RR, n, nc, ns) res)))))) : ab_E w (d + 3) mt_K_nextBest 4 [.ref kx, .int v1, .int v2, .null, .null] [] (I, L, ab_RR, n, nc, ns) res := by
  refine ab_iload_n (i := 2) d_K_nextBest_4 rfl rfl ?_
  refine ab_aload_n (i := 0) d_K_nextBest_5 rfl rfl ?_
  refine ab_getR (ci := 10) (k := 3) (j := kx_now) d_K_nextBest_6 v_475 rfl (by decide) (by decide) rfl r_kx_3 ?_
  refine ab_getR (ci := 6) (k := 0) (j := kx_now_cables) d_K_nextBest_9 v_294 rfl (by decide) (by decide) rfl r_kx_now_0 ?_
  refine ab_getI (ci := 1) (k := 1) d_K_nextBest_12 v_199 rfl (by decide) (by decide) rfl ?_
  refine ab_icmp_ge (tgt := 87) d_K_nextBest_15 (by decide) (fun c1 => ?_) (fun c1 => ?_)
  · have h := h.1 c1
    refine ab_iload_n (i := 1) d_K_nextBest_87 rfl rfl ?_
    exact ab_iret (ty := .int) d_K_nextBest_88 rfl rfl h
  · have h := h.2 c1
    refine ab_aload_n (i := 0) d_K_nextBest_18 rfl rfl ?_
    refine ab_iload_n (i := 2) d_K_nextBest_19 rfl rfl ?_
    by_cases c3 : (((I kx_now_cables 2) >>> (v2 &&& 31)) &&& 1) = 1
    · have h := h.1 c3
      by_cases c4 : (((I kx_forest 2) >>> (v2 &&& 31)) &&& 1) = 1
      · have h := h.1 c4
        refine ab_callV (me2 := mt_K_dearestOf) (b := kx) (as := [.int v2]) (st := []) (rv := (some (.int (-1)))) (M2 := (I, L, ab_RR, n, nc, ns)) d_K_nextBest_20 ce_K_dearestOf v_936 v_938 v_28 (by decide) rfl (Nat.le_of_ble_eq_true rfl) (cx_K_dearestOf_2 v2 hT c3 (show ¬ (1 : Int32) = 0 from by decide) c4 (show ¬ (1 : Int32) = 0 from by decide) (show (0 : Int32) = 0 from by decide)) (Nat.le_refl _) (Nat.le_refl _) hc hs (fun j h9 => by cases h9) (fun _ _ => rfl) ?_
        show ab_E w (d + 3) mt_K_nextBest 23 [.ref kx, .int v1, .int v2, .null, .null] [.int (-1)] (I, L, ab_RR, n, nc, ns) res
        refine ab_istore_n (i := 3) d_K_nextBest_23 rfl (by decide) (Or.inr rfl) ?_
        refine ab_iload_n (i := 3) d_K_nextBest_24 rfl rfl ?_
        refine ab_iconst (v := (-1)) d_K_nextBest_25 rfl ?_
        refine ab_icmp_eq (tgt := 81) d_K_nextBest_26 (by decide) (fun _ => ?_) (fun c9 => absurd (show ((-1) : Int32) = (-1) from by decide) c9)
        refine ab_iinc (i := 2) (v := (v2 + 1)) d_K_nextBest_81 rfl rfl (by decide) (Or.inr rfl) ?_
        refine ab_goto (tgt := 4) d_K_nextBest_84 (by decide) ?_
        refine ab_drop 3 ?_
        exact h
      · have h := h.2 c4
        have g5 := h.1; have h := h.2
        have g6 := h.1; have h := h.2
        refine ab_callV (me2 := mt_K_dearestOf) (b := kx) (as := [.int v2]) (st := []) (rv := (some (.int (I kx_ways_dearest (((I kx_now_cables_first v2.toNatClampNeg) * 10) + (I kx_now_cables_second v2.toNatClampNeg)).toNatClampNeg)))) (M2 := (I, L, ab_RR, n, nc, ns)) d_K_nextBest_20 ce_K_dearestOf v_936 v_938 v_28 (by decide) rfl (Nat.le_of_ble_eq_true rfl) (cx_K_dearestOf_1 v2 hT c3 (show ¬ (1 : Int32) = 0 from by decide) c4 (show (0 : Int32) = 0 from by decide) (show ¬ (1 : Int32) = 0 from by decide) g5 g5 g6) (Nat.le_refl _) (Nat.le_refl _) hc hs (fun j h9 => by cases h9) (fun _ _ => rfl) ?_
        show ab_E w (d + 3) mt_K_nextBest 23 [.ref kx, .int v1, .int v2, .null, .null] [.int (I kx_ways_dearest (((I kx_now_cables_first v2.toNatClampNeg) * 10) + (I kx_now_cables_second v2.toNatClampNeg)).toNatClampNeg)] (I, L, ab_RR, n, nc, ns) res
        refine ab_istore_n (i := 3) d_K_nextBest_23 rfl (by decide) (Or.inr rfl) ?_
        refine ab_iload_n (i := 3) d_K_nextBest_24 rfl rfl ?_
        refine ab_iconst (v := (-1)) d_K_nextBest_25 rfl ?_
        refine ab_icmp_eq (tgt := 81) d_K_nextBest_26 (by decide) (fun c7 => ?_) (fun c7 => ?_)
        · have h := h.1 c7
          refine ab_iinc (i := 2) (v := (v2 + 1)) d_K_nextBest_81 rfl rfl (by decide) (Or.inr rfl) ?_
          refine ab_goto (tgt := 4) d_K_nextBest_84 (by decide) ?_
          refine ab_drop 3 ?_
          exact h
        · have h := h.2 c7
          refine ab_aload_n (i := 0) d_K_nextBest_29 rfl rfl ?_
          refine ab_getR (ci := 10) (k := 6) (j := kx_forest) d_K_nextBest_30 v_478 rfl (by decide) (by decide) rfl r_kx_6 ?_
          refine ab_getI (ci := 2) (k := 3) d_K_nextBest_33 v_337 rfl (by decide) (by decide) rfl ?_
          refine ab_aload_n (i := 0) d_K_nextBest_36 rfl rfl ?_
          refine ab_getR (ci := 10) (k := 3) (j := kx_now) d_K_nextBest_37 v_475 rfl (by decide) (by decide) rfl r_kx_3 ?_
          refine ab_getR (ci := 6) (k := 0) (j := kx_now_cables) d_K_nextBest_40 v_294 rfl (by decide) (by decide) rfl r_kx_now_0 ?_
          refine ab_getR (ci := 1) (k := 5) (j := kx_now_cables_price) d_K_nextBest_43 v_224 rfl (by decide) (by decide) rfl r_kx_now_cables_5 ?_
          refine ab_iload_n (i := 2) d_K_nextBest_46 rfl rfl ?_
          refine ab_iald d_K_nextBest_47 rfl rfl g5 ?_
          refine ab_iadd d_K_nextBest_48 ?_
          refine ab_aload_n (i := 0) d_K_nextBest_49 rfl rfl ?_
          refine ab_getR (ci := 10) (k := 3) (j := kx_now) d_K_nextBest_50 v_475 rfl (by decide) (by decide) rfl r_kx_3 ?_
          refine ab_getR (ci := 6) (k := 0) (j := kx_now_cables) d_K_nextBest_53 v_294 rfl (by decide) (by decide) rfl r_kx_now_0 ?_
          refine ab_getR (ci := 1) (k := 5) (j := kx_now_cables_price) d_K_nextBest_56 v_224 rfl (by decide) (by decide) rfl r_kx_now_cables_5 ?_
          refine ab_iload_n (i := 3) d_K_nextBest_59 rfl rfl ?_
          have g8 := h.1; have h := h.2
          refine ab_iald d_K_nextBest_60 rfl rfl g8 ?_
          refine ab_isub d_K_nextBest_61 ?_
          refine ab_istore (i := 4) d_K_nextBest_62 (by decide) (Or.inr rfl) ?_
          refine ab_iload_n (i := 1) d_K_nextBest_64 rfl rfl ?_
          refine ab_iconst (v := (-1)) d_K_nextBest_65 rfl ?_
          refine ab_icmp_ne (tgt := 74) d_K_nextBest_66 (by decide) (fun c9 => ?_) (fun c9 => ?_)
          · have h := h.1 c9
            refine ab_iload_n (i := 1) d_K_nextBest_74 rfl rfl ?_
            refine ab_iload (i := 4) d_K_nextBest_75 rfl ?_
            refine ab_min d_K_nextBest_77 v_447 v_448 v_150 v_449 (Nat.succ_le_succ (Nat.zero_le _)) (Nat.le_of_ble_eq_true rfl) hc hs ?_
            refine ab_istore_n (i := 1) d_K_nextBest_80 rfl (by decide) (Or.inr rfl) ?_
            refine ab_iinc (i := 2) (v := (v2 + 1)) d_K_nextBest_81 rfl rfl (by decide) (Or.inr rfl) ?_
            refine ab_goto (tgt := 4) d_K_nextBest_84 (by decide) ?_
            refine ab_drop 3 ?_
            refine ab_drop 4 ?_
            exact h
          · have h := h.2 c9
            refine ab_iload (i := 4) d_K_nextBest_69 rfl ?_
            refine ab_goto (tgt := 80) d_K_nextBest_71 (by decide) ?_
            refine ab_istore_n (i := 1) d_K_nextBest_80 rfl (by decide) (Or.inr rfl) ?_
            refine ab_iinc (i := 2) (v := (v2 + 1)) d_K_nextBest_81 rfl rfl (by decide) (Or.inr rfl) ?_
            refine ab_goto (tgt := 4) d_K_nextBest_84 (by decide) ?_
            refine ab_drop 3 ?_
            refine ab_drop 4 ?_
            exact h
    · have h := h.2 c3
      refine ab_callV (me2 := mt_K_dearestOf) (b := kx) (as := [.int v2]) (st := []) (rv := (some (.int (-1)))) (M2 := (I, L, ab_RR, n, nc, ns)) d_K_nextBest_20 ce_K_dearestOf v_936 v_938 v_28 (by decide) rfl (Nat.le_of_ble_eq_true rfl) (cx_K_dearestOf_0 v2 hT c3 (show (0 : Int32) = 0 from by decide) (show (0 : Int32) = 0 from by decide)) (Nat.le_refl _) (Nat.le_refl _) hc hs (fun j h9 => by cases h9) (fun _ _ => rfl) ?_
      show ab_E w (d + 3) mt_K_nextBest 23 [.ref kx, .int v1, .int v2, .null, .null] [.int (-1)] (I, L, ab_RR, n, nc, ns) res
      refine ab_istore_n (i := 3) d_K_nextBest_23 rfl (by decide) (Or.inr rfl) ?_
      refine ab_iload_n (i := 3) d_K_nextBest_24 rfl rfl ?_
      refine ab_iconst (v := (-1)) d_K_nextBest_25 rfl ?_
      refine ab_icmp_eq (tgt := 81) d_K_nextBest_26 (by decide) (fun _ => ?_) (fun c9 => absurd (show ((-1) : Int32) = (-1) from by decide) c9)
      refine ab_iinc (i := 2) (v := (v2 + 1)) d_K_nextBest_81 rfl rfl (by decide) (Or.inr rfl) ?_
      refine ab_goto (tgt := 4) d_K_nextBest_84 (by decide) ?_
      refine ab_drop 3 ?_
      exact h
theorem r_K_endsAt_0 {w : ab_Wd} {d n nc ns : Nat} {I : Nat → Nat → Int32} {L : Nat → Nat → Int64} {res : ab_Re} (hT : w.1.stackTraces = false) (v1 : Int32) (hc : nc ≤ res.2.2.2.2.2.1) (hs : ns ≤ res.2.2.2.2.2.2)
    (h : ∃ (r1 : Int32), ab_C w d mt_Cables_endingAt [.ref kx_now_cables, .int v1] (I, L, ab_RR, n, nc, ns) (.inl (some (.int r1)), (I, L, ab_RR, n, nc, ns)) ∧ ∃ (r2 : Int32), ab_C w d mt_Integer_bitCount [.int ((I kx_forest 2) &&& r1)] (I, L, ab_RR, n, nc, ns) (.inl (some (.int r2)), (I, L, ab_RR, n, nc, ns)) ∧ res = (.inl (some (.int r2)), (I, L, ab_RR, n, nc, ns))) : ab_E w (d + 1) mt_K_endsAt 0 [.ref kx, .int v1] [] (I, L, ab_RR, n, nc, ns) res := by
  refine ab_aload_n (i := 0) d_K_endsAt_0 rfl rfl ?_
  refine ab_getR (ci := 10) (k := 6) (j := kx_forest) d_K_endsAt_1 v_478 rfl (by decide) (by decide) rfl r_kx_6 ?_
  refine ab_getI (ci := 2) (k := 2) d_K_endsAt_4 v_335 rfl (by decide) (by decide) rfl ?_
  refine ab_aload_n (i := 0) d_K_endsAt_7 rfl rfl ?_
  refine ab_getR (ci := 10) (k := 3) (j := kx_now) d_K_endsAt_8 v_475 rfl (by decide) (by decide) rfl r_kx_3 ?_
  refine ab_getR (ci := 6) (k := 0) (j := kx_now_cables) d_K_endsAt_11 v_294 rfl (by decide) (by decide) rfl r_kx_now_0 ?_
  refine ab_iload_n (i := 1) d_K_endsAt_14 rfl rfl ?_
  obtain ⟨r1, hC, h⟩ := h
  refine ab_callV (me2 := mt_Cables_endingAt) (b := kx_now_cables) (as := [.int v1]) (st := [.int (I kx_forest 2)]) (rv := (some (.int r1))) (M2 := (I, L, ab_RR, n, nc, ns)) d_K_endsAt_15 ce_Cables_endingAt v_960 v_961 v_962 (by decide) rfl (Nat.le_of_ble_eq_true rfl) hC (Nat.le_refl _) (Nat.le_refl _) hc hs (fun j h9 => by cases h9) (fun _ _ => rfl) ?_
  show ab_E w (d + 1) mt_K_endsAt 18 [.ref kx, .int v1] [.int r1, .int (I kx_forest 2)] (I, L, ab_RR, n, nc, ns) res
  refine ab_iand d_K_endsAt_18 ?_
  obtain ⟨r2, hC, h⟩ := h
  refine ab_callS (me2 := mt_Integer_bitCount) (as := [.int ((I kx_forest 2) &&& r1)]) (st := []) (rv := (some (.int r2))) (M2 := (I, L, ab_RR, n, nc, ns)) d_K_endsAt_19 ce_Integer_bitCount ⟨v_965, Or.inl v_964⟩ (Nat.le_of_ble_eq_true rfl) hC (Nat.le_refl _) (Nat.le_refl _) hc hs (fun j h9 => by cases h9) (fun _ _ => rfl) ?_
  show ab_E w (d + 1) mt_K_endsAt 22 [.ref kx, .int v1] [.int r2] (I, L, ab_RR, n, nc, ns) res
  exact ab_iret (ty := .int) d_K_endsAt_22 rfl rfl h
theorem r_K_hub_0 {w : ab_Wd} {d n nc ns : Nat} {I : Nat → Nat → Int32} {L : Nat → Nat → Int64} {res : ab_Re} (hT : w.1.stackTraces = false)  (hc : nc ≤ res.2.2.2.2.2.1) (hs : ns ≤ res.2.2.2.2.2.2)
    (h : ∃ (r1 : Int32), ab_C w d mt_K_endsAt [.ref kx, .int 0] (I, L, ab_RR, n, nc, ns) (.inl (some (.int r1)), (I, L, ab_RR, n, nc, ns)) ∧ ab_E w (d + 1) mt_K_hub 10 [.ref kx, .int 0, .int r1, .int 1, .null] [] (I, L, ab_RR, n, nc, ns) res) : ab_E w (d + 1) mt_K_hub 0 [.ref kx, .null, .null, .null, .null] [] (I, L, ab_RR, n, nc, ns) res := by
  refine ab_iconst (v := 0) d_K_hub_0 rfl ?_
  refine ab_istore_n (i := 1) d_K_hub_1 rfl (by decide) (Or.inr rfl) ?_
  refine ab_aload_n (i := 0) d_K_hub_2 rfl rfl ?_
  refine ab_iconst (v := 0) d_K_hub_3 rfl ?_
  obtain ⟨r1, hC, h⟩ := h
  refine ab_callV (me2 := mt_K_endsAt) (b := kx) (as := [.int 0]) (st := []) (rv := (some (.int r1))) (M2 := (I, L, ab_RR, n, nc, ns)) d_K_hub_4 ce_K_endsAt v_956 v_958 v_32 (by decide) rfl (Nat.le_of_ble_eq_true rfl) hC (Nat.le_refl _) (Nat.le_refl _) hc hs (fun j h9 => by cases h9) (fun _ _ => rfl) ?_
  show ab_E w (d + 1) mt_K_hub 7 [.ref kx, .int 0, .null, .null, .null] [.int r1] (I, L, ab_RR, n, nc, ns) res
  refine ab_istore_n (i := 2) d_K_hub_7 rfl (by decide) (Or.inr rfl) ?_
  refine ab_iconst (v := 1) d_K_hub_8 rfl ?_
  refine ab_istore_n (i := 3) d_K_hub_9 rfl (by decide) (Or.inr rfl) ?_
  exact h
theorem r_K_hub_10 {w : ab_Wd} {d n nc ns : Nat} {I : Nat → Nat → Int32} {L : Nat → Nat → Int64} {res : ab_Re} (hT : w.1.stackTraces = false) (v1 : Int32) (v2 : Int32) (v3 : Int32) (hc : nc ≤ res.2.2.2.2.2.1) (hs : ns ≤ res.2.2.2.2.2.2)
    (h : (((I kx_now_cables 0) ≤ v3 → (res = (.inl (some (.int v1)), (I, L, ab_RR, n, nc, ns)))) ∧ (¬ (I kx_now_cables 0) ≤ v3 → (∃ (r2 : Int32), ab_C w d mt_K_endsAt [.ref kx, .int v3] (I, L, ab_RR, n, nc, ns) (.inl (some (.int r2)), (I, L, ab_RR, n, nc, ns)) ∧ ((r2 ≤ v2 → (ab_E w (d + 1) mt_K_hub 10 [.ref kx, .int v1, .int v2, .int (v3 + 1), .null] [] (I, L, ab_RR, n, nc, ns) res)) ∧ (¬ r2 ≤ v2 → (ab_E w (d + 1) mt_K_hub 10 [.ref kx, .int v3, .int r2, .int (v3 + 1), .null] [] (I, L, ab_RR, n, nc, ns) res))))))) : ab_E w (d + 1) mt_K_hub 10 [.ref kx, .int v1, .int v2, .int v3, .null] [] (I, L, ab_RR, n, nc, ns) res := by
  refine ab_iload_n (i := 3) d_K_hub_10 rfl rfl ?_
  refine ab_aload_n (i := 0) d_K_hub_11 rfl rfl ?_
  refine ab_getR (ci := 10) (k := 3) (j := kx_now) d_K_hub_12 v_475 rfl (by decide) (by decide) rfl r_kx_3 ?_
  refine ab_getR (ci := 6) (k := 0) (j := kx_now_cables) d_K_hub_15 v_294 rfl (by decide) (by decide) rfl r_kx_now_0 ?_
  refine ab_getI (ci := 1) (k := 0) d_K_hub_18 v_190 rfl (by decide) (by decide) rfl ?_
  refine ab_icmp_ge (tgt := 48) d_K_hub_21 (by decide) (fun c1 => ?_) (fun c1 => ?_)
  · have h := h.1 c1
    refine ab_iload_n (i := 1) d_K_hub_48 rfl rfl ?_
    exact ab_iret (ty := .int) d_K_hub_49 rfl rfl h
  · have h := h.2 c1
    refine ab_aload_n (i := 0) d_K_hub_24 rfl rfl ?_
    refine ab_iload_n (i := 3) d_K_hub_25 rfl rfl ?_
    obtain ⟨r2, hC, h⟩ := h
    refine ab_callV (me2 := mt_K_endsAt) (b := kx) (as := [.int v3]) (st := []) (rv := (some (.int r2))) (M2 := (I, L, ab_RR, n, nc, ns)) d_K_hub_26 ce_K_endsAt v_956 v_958 v_32 (by decide) rfl (Nat.le_of_ble_eq_true rfl) hC (Nat.le_refl _) (Nat.le_refl _) hc hs (fun j h9 => by cases h9) (fun _ _ => rfl) ?_
    show ab_E w (d + 1) mt_K_hub 29 [.ref kx, .int v1, .int v2, .int v3, .null] [.int r2] (I, L, ab_RR, n, nc, ns) res
    refine ab_istore (i := 4) d_K_hub_29 (by decide) (Or.inr rfl) ?_
    refine ab_iload (i := 4) d_K_hub_31 rfl ?_
    refine ab_iload_n (i := 2) d_K_hub_33 rfl rfl ?_
    refine ab_icmp_le (tgt := 42) d_K_hub_34 (by decide) (fun c3 => ?_) (fun c3 => ?_)
    · have h := h.1 c3
      refine ab_iinc (i := 3) (v := (v3 + 1)) d_K_hub_42 rfl rfl (by decide) (Or.inr rfl) ?_
      refine ab_goto (tgt := 10) d_K_hub_45 (by decide) ?_
      refine ab_drop 4 ?_
      exact h
    · have h := h.2 c3
      refine ab_iload_n (i := 3) d_K_hub_37 rfl rfl ?_
      refine ab_istore_n (i := 1) d_K_hub_38 rfl (by decide) (Or.inr rfl) ?_
      refine ab_iload (i := 4) d_K_hub_39 rfl ?_
      refine ab_istore_n (i := 2) d_K_hub_41 rfl (by decide) (Or.inr rfl) ?_
      refine ab_iinc (i := 3) (v := (v3 + 1)) d_K_hub_42 rfl rfl (by decide) (Or.inr rfl) ?_
      refine ab_goto (tgt := 10) d_K_hub_45 (by decide) ?_
      refine ab_drop 4 ?_
      exact h
theorem r_K_twins_0 {w : ab_Wd} {d n nc ns : Nat} {I : Nat → Nat → Int32} {L : Nat → Nat → Int64} {res : ab_Re} (hT : w.1.stackTraces = false)  (hc : nc ≤ res.2.2.2.2.2.1) (hs : ns ≤ res.2.2.2.2.2.2)
    (h : ∃ (I2 : Nat → Nat → Int32), ab_C w d mt_Cables_copy [.ref kx_trial, .ref kx_now_cables] (I, L, ab_RR, n, nc, ns) (.inl none, (I2, L, ab_RR, n, nc, ns)) ∧ ab_E w (d + 1) mt_K_twins 16 [.ref kx, .int 0] [] (I2, L, ab_RR, n, nc, ns) res) : ab_E w (d + 1) mt_K_twins 0 [.ref kx, .null] [] (I, L, ab_RR, n, nc, ns) res := by
  refine ab_aload_n (i := 0) d_K_twins_0 rfl rfl ?_
  refine ab_getR (ci := 10) (k := 8) (j := kx_trial) d_K_twins_1 v_480 rfl (by decide) (by decide) rfl r_kx_8 ?_
  refine ab_aload_n (i := 0) d_K_twins_4 rfl rfl ?_
  refine ab_getR (ci := 10) (k := 3) (j := kx_now) d_K_twins_5 v_475 rfl (by decide) (by decide) rfl r_kx_3 ?_
  refine ab_getR (ci := 6) (k := 0) (j := kx_now_cables) d_K_twins_8 v_294 rfl (by decide) (by decide) rfl r_kx_now_0 ?_
  obtain ⟨I2, hC, h⟩ := h
  refine ab_callV (me2 := mt_Cables_copy) (b := kx_trial) (as := [.ref kx_now_cables]) (st := []) (rv := none) (M2 := (I2, L, ab_RR, n, nc, ns)) d_K_twins_11 ce_Cables_copy v_983 v_672 v_673 (by decide) rfl (Nat.le_of_ble_eq_true rfl) hC (Nat.le_refl _) (Nat.le_refl _) hc hs (fun j h9 => by cases h9) (fun _ _ => rfl) ?_
  show ab_E w (d + 1) mt_K_twins 14 [.ref kx, .null] [] (I2, L, ab_RR, n, nc, ns) res
  refine ab_iconst (v := 0) d_K_twins_14 rfl ?_
  refine ab_istore_n (i := 1) d_K_twins_15 rfl (by decide) (Or.inr rfl) ?_
  exact h
theorem r_K_twins_16 {w : ab_Wd} {d n nc ns : Nat} {I : Nat → Nat → Int32} {L : Nat → Nat → Int64} {res : ab_Re} (hT : w.1.stackTraces = false) (v1 : Int32) (hc : nc ≤ res.2.2.2.2.2.1) (hs : ns ≤ res.2.2.2.2.2.2)
    (h : (((I kx_trial 1) ≤ v1 → (∃ (I3 : Nat → Nat → Int32), ab_C w d mt_Cables_sort [.ref kx_trial] (I, L, ab_RR, n, nc, ns) (.inl none, (I3, L, ab_RR, n, nc, ns)) ∧ ∃ (I5 : Nat → Nat → Int32), ab_C w d mt_Forest_grow [.ref kx_trialNet, .ref kx_trial, .int (I3 kx_trial 2)] (I3, L, ab_RR, n, nc, ns) (.inl none, (I5, L, ab_RR, n, nc, ns)) ∧ res = (.inl (some (.int ((I5 kx_forest 2) &&& (I5 kx_trialNet 2)))), (I5, L, ab_RR, n, nc, ns)))) ∧ (¬ (I kx_trial 1) ≤ v1 → ((vp_in v1 24) ∧ ab_E w (d + 1) mt_K_twins 16 [.ref kx, .int (v1 + 1)] [] ((ab_up I kx_trial_price v1.toNatClampNeg (1000 - (I kx_trial_price v1.toNatClampNeg))), L, ab_RR, n, nc, ns) res)))) : ab_E w (d + 1) mt_K_twins 16 [.ref kx, .int v1] [] (I, L, ab_RR, n, nc, ns) res := by
  refine ab_iload_n (i := 1) d_K_twins_16 rfl rfl ?_
  refine ab_aload_n (i := 0) d_K_twins_17 rfl rfl ?_
  refine ab_getR (ci := 10) (k := 8) (j := kx_trial) d_K_twins_18 v_480 rfl (by decide) (by decide) rfl r_kx_8 ?_
  refine ab_getI (ci := 1) (k := 1) d_K_twins_21 v_199 rfl (by decide) (by decide) rfl ?_
  refine ab_icmp_ge (tgt := 55) d_K_twins_24 (by decide) (fun c1 => ?_) (fun c1 => ?_)
  · have h := h.1 c1
    refine ab_aload_n (i := 0) d_K_twins_55 rfl rfl ?_
    refine ab_getR (ci := 10) (k := 8) (j := kx_trial) d_K_twins_56 v_480 rfl (by decide) (by decide) rfl r_kx_8 ?_
    obtain ⟨I3, hC, h⟩ := h
    refine ab_callV (me2 := mt_Cables_sort) (b := kx_trial) (as := []) (st := []) (rv := none) (M2 := (I3, L, ab_RR, n, nc, ns)) d_K_twins_59 ce_Cables_sort v_591 v_592 v_593 (by decide) rfl (Nat.le_of_ble_eq_true rfl) hC (Nat.le_refl _) (Nat.le_refl _) hc hs (fun j h9 => by cases h9) (fun _ _ => rfl) ?_
    show ab_E w (d + 1) mt_K_twins 62 [.ref kx, .int v1] [] (I3, L, ab_RR, n, nc, ns) res
    refine ab_aload_n (i := 0) d_K_twins_62 rfl rfl ?_
    refine ab_getR (ci := 10) (k := 9) (j := kx_trialNet) d_K_twins_63 v_481 rfl (by decide) (by decide) rfl r_kx_9 ?_
    refine ab_aload_n (i := 0) d_K_twins_66 rfl rfl ?_
    refine ab_getR (ci := 10) (k := 8) (j := kx_trial) d_K_twins_67 v_480 rfl (by decide) (by decide) rfl r_kx_8 ?_
    refine ab_aload_n (i := 0) d_K_twins_70 rfl rfl ?_
    refine ab_getR (ci := 10) (k := 8) (j := kx_trial) d_K_twins_71 v_480 rfl (by decide) (by decide) rfl r_kx_8 ?_
    refine ab_getI (ci := 1) (k := 2) d_K_twins_74 v_202 rfl (by decide) (by decide) rfl ?_
    obtain ⟨I5, hC, h⟩ := h
    refine ab_callV (me2 := mt_Forest_grow) (b := kx_trialNet) (as := [.ref kx_trial, .int (I3 kx_trial 2)]) (st := []) (rv := none) (M2 := (I5, L, ab_RR, n, nc, ns)) d_K_twins_77 ce_Forest_grow v_440 v_441 v_442 (by decide) rfl (Nat.le_of_ble_eq_true rfl) hC (Nat.le_refl _) (Nat.le_refl _) hc hs (fun j h9 => by cases h9) (fun _ _ => rfl) ?_
    show ab_E w (d + 1) mt_K_twins 80 [.ref kx, .int v1] [] (I5, L, ab_RR, n, nc, ns) res
    refine ab_aload_n (i := 0) d_K_twins_80 rfl rfl ?_
    refine ab_getR (ci := 10) (k := 6) (j := kx_forest) d_K_twins_81 v_478 rfl (by decide) (by decide) rfl r_kx_6 ?_
    refine ab_getI (ci := 2) (k := 2) d_K_twins_84 v_335 rfl (by decide) (by decide) rfl ?_
    refine ab_aload_n (i := 0) d_K_twins_87 rfl rfl ?_
    refine ab_getR (ci := 10) (k := 9) (j := kx_trialNet) d_K_twins_88 v_481 rfl (by decide) (by decide) rfl r_kx_9 ?_
    refine ab_getI (ci := 2) (k := 2) d_K_twins_91 v_335 rfl (by decide) (by decide) rfl ?_
    refine ab_iand d_K_twins_94 ?_
    exact ab_iret (ty := .int) d_K_twins_95 rfl rfl h
  · have h := h.2 c1
    refine ab_aload_n (i := 0) d_K_twins_27 rfl rfl ?_
    refine ab_getR (ci := 10) (k := 8) (j := kx_trial) d_K_twins_28 v_480 rfl (by decide) (by decide) rfl r_kx_8 ?_
    refine ab_getR (ci := 1) (k := 5) (j := kx_trial_price) d_K_twins_31 v_224 rfl (by decide) (by decide) rfl r_kx_trial_5 ?_
    refine ab_iload_n (i := 1) d_K_twins_34 rfl rfl ?_
    refine ab_sipush (v := 1000) d_K_twins_35 rfl ?_
    refine ab_aload_n (i := 0) d_K_twins_38 rfl rfl ?_
    refine ab_getR (ci := 10) (k := 8) (j := kx_trial) d_K_twins_39 v_480 rfl (by decide) (by decide) rfl r_kx_8 ?_
    refine ab_getR (ci := 1) (k := 5) (j := kx_trial_price) d_K_twins_42 v_224 rfl (by decide) (by decide) rfl r_kx_trial_5 ?_
    refine ab_iload_n (i := 1) d_K_twins_45 rfl rfl ?_
    have g6 := h.1; have h := h.2
    refine ab_iald d_K_twins_46 rfl rfl g6 ?_
    refine ab_isub d_K_twins_47 ?_
    refine ab_iast d_K_twins_48 rfl rfl g6 ?_
    refine ab_iinc (i := 1) (v := (v1 + 1)) d_K_twins_49 rfl rfl (by decide) (Or.inr rfl) ?_
    refine ab_goto (tgt := 16) d_K_twins_52 (by decide) ?_
    exact h
