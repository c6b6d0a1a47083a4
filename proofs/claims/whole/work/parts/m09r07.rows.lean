theorem r_M_readBroken_0 {w : ab_Wd} {d n nc ns : Nat} {I : Nat → Nat → Int32} {L : Nat → Nat → Int64} {res : ab_Re} (hT : w.1.stackTraces = false)  (hc : nc ≤ res.2.2.2.2.2.1) (hs : ns ≤ res.2.2.2.2.2.2)
    (h : ∃ (I2 : Nat → Nat → Int32), ab_C w d mt_M_stepOn [.ref mx] (I, L, ab_RR, n, nc, ns) (.inl none, (I2, L, ab_RR, n, nc, ns)) ∧ ∃ (r3 : Int32) (I4 : Nat → Nat → Int32), ab_C w d mt_M_numberNow [.ref mx, .int 0, .int 23] (I2, L, ab_RR, n, nc, ns) (.inl (some (.int r3)), (I4, L, ab_RR, n, nc, ns)) ∧ ((¬ (I4 mx 15) = 0 → ((¬ (I4 mx 15) = 0 → (((I4 mx 15) = 0 → (∃ (I9 : Nat → Nat → Int32), ab_C w d mt_M_stepOn [.ref mx] (I4, L, ab_RR, n, nc, ns) (.inl none, (I9, L, ab_RR, n, nc, ns)) ∧ res = (.inl none, ((ab_up I9 mx_reading 1 ((I9 mx_reading 1) &&& (((1 : Int32) <<< (r3 &&& 31)) ^^^ (-1)))), L, ab_RR, n, nc, ns)))) ∧ (¬ (I4 mx 15) = 0 → (res = (.inl none, (I4, L, ab_RR, n, nc, ns)))))) ∧ ((I4 mx 15) = 0 → ((¬ (((I4 mx_reading 1) >>> (r3 &&& 31)) &&& 1) = 0 → (((I4 mx 15) = 0 → (∃ (I13 : Nat → Nat → Int32), ab_C w d mt_M_stepOn [.ref mx] (I4, L, ab_RR, n, nc, ns) (.inl none, (I13, L, ab_RR, n, nc, ns)) ∧ res = (.inl none, ((ab_up I13 mx_reading 1 ((I13 mx_reading 1) &&& (((1 : Int32) <<< (r3 &&& 31)) ^^^ (-1)))), L, ab_RR, n, nc, ns)))) ∧ (¬ (I4 mx 15) = 0 → (res = (.inl none, (I4, L, ab_RR, n, nc, ns)))))) ∧ ((((I4 mx_reading 1) >>> (r3 &&& 31)) &&& 1) = 0 → (((I4 mx 15) = 0 → (res = (.inl none, ((ab_up (ab_up I4 mx 15 4) mx 16 (I4 mx 13)), L, ab_RR, n, nc, ns)))) ∧ (¬ (I4 mx 15) = 0 → (((I4 mx 15) = 0 → (∃ (I19 : Nat → Nat → Int32), ab_C w d mt_M_stepOn [.ref mx] (I4, L, ab_RR, n, nc, ns) (.inl none, (I19, L, ab_RR, n, nc, ns)) ∧ res = (.inl none, ((ab_up I19 mx_reading 1 ((I19 mx_reading 1) &&& (((1 : Int32) <<< (r3 &&& 31)) ^^^ (-1)))), L, ab_RR, n, nc, ns)))) ∧ (¬ (I4 mx 15) = 0 → (res = (.inl none, (I4, L, ab_RR, n, nc, ns)))))))))))) ∧ ((I4 mx 15) = 0 → ((r3 < (I4 mx_reading 0) → ((¬ (I4 mx 15) = 0 → (((I4 mx 15) = 0 → (∃ (I24 : Nat → Nat → Int32), ab_C w d mt_M_stepOn [.ref mx] (I4, L, ab_RR, n, nc, ns) (.inl none, (I24, L, ab_RR, n, nc, ns)) ∧ res = (.inl none, ((ab_up I24 mx_reading 1 ((I24 mx_reading 1) &&& (((1 : Int32) <<< (r3 &&& 31)) ^^^ (-1)))), L, ab_RR, n, nc, ns)))) ∧ (¬ (I4 mx 15) = 0 → (res = (.inl none, (I4, L, ab_RR, n, nc, ns)))))) ∧ ((I4 mx 15) = 0 → ((¬ (((I4 mx_reading 1) >>> (r3 &&& 31)) &&& 1) = 0 → (((I4 mx 15) = 0 → (∃ (I28 : Nat → Nat → Int32), ab_C w d mt_M_stepOn [.ref mx] (I4, L, ab_RR, n, nc, ns) (.inl none, (I28, L, ab_RR, n, nc, ns)) ∧ res = (.inl none, ((ab_up I28 mx_reading 1 ((I28 mx_reading 1) &&& (((1 : Int32) <<< (r3 &&& 31)) ^^^ (-1)))), L, ab_RR, n, nc, ns)))) ∧ (¬ (I4 mx 15) = 0 → (res = (.inl none, (I4, L, ab_RR, n, nc, ns)))))) ∧ ((((I4 mx_reading 1) >>> (r3 &&& 31)) &&& 1) = 0 → (((I4 mx 15) = 0 → (res = (.inl none, ((ab_up (ab_up I4 mx 15 4) mx 16 (I4 mx 13)), L, ab_RR, n, nc, ns)))) ∧ (¬ (I4 mx 15) = 0 → (((I4 mx 15) = 0 → (∃ (I34 : Nat → Nat → Int32), ab_C w d mt_M_stepOn [.ref mx] (I4, L, ab_RR, n, nc, ns) (.inl none, (I34, L, ab_RR, n, nc, ns)) ∧ res = (.inl none, ((ab_up I34 mx_reading 1 ((I34 mx_reading 1) &&& (((1 : Int32) <<< (r3 &&& 31)) ^^^ (-1)))), L, ab_RR, n, nc, ns)))) ∧ (¬ (I4 mx 15) = 0 → (res = (.inl none, (I4, L, ab_RR, n, nc, ns)))))))))))) ∧ (¬ r3 < (I4 mx_reading 0) → (((I4 mx 15) = 0 → (res = (.inl none, ((ab_up (ab_up I4 mx 15 3) mx 16 (I4 mx 13)), L, ab_RR, n, nc, ns)))) ∧ (¬ (I4 mx 15) = 0 → ((¬ (I4 mx 15) = 0 → (((I4 mx 15) = 0 → (∃ (I41 : Nat → Nat → Int32), ab_C w d mt_M_stepOn [.ref mx] (I4, L, ab_RR, n, nc, ns) (.inl none, (I41, L, ab_RR, n, nc, ns)) ∧ res = (.inl none, ((ab_up I41 mx_reading 1 ((I41 mx_reading 1) &&& (((1 : Int32) <<< (r3 &&& 31)) ^^^ (-1)))), L, ab_RR, n, nc, ns)))) ∧ (¬ (I4 mx 15) = 0 → (res = (.inl none, (I4, L, ab_RR, n, nc, ns)))))) ∧ ((I4 mx 15) = 0 → ((¬ (((I4 mx_reading 1) >>> (r3 &&& 31)) &&& 1) = 0 → (((I4 mx 15) = 0 → (∃ (I45 : Nat → Nat → Int32), ab_C w d mt_M_stepOn [.ref mx] (I4, L, ab_RR, n, nc, ns) (.inl none, (I45, L, ab_RR, n, nc, ns)) ∧ res = (.inl none, ((ab_up I45 mx_reading 1 ((I45 mx_reading 1) &&& (((1 : Int32) <<< (r3 &&& 31)) ^^^ (-1)))), L, ab_RR, n, nc, ns)))) ∧ (¬ (I4 mx 15) = 0 → (res = (.inl none, (I4, L, ab_RR, n, nc, ns)))))) ∧ ((((I4 mx_reading 1) >>> (r3 &&& 31)) &&& 1) = 0 → (((I4 mx 15) = 0 → (∃ (I50 : Nat → Nat → Int32), ab_C w d mt_M_stepOn [.ref mx] (I4, L, ab_RR, n, nc, ns) (.inl none, (I50, L, ab_RR, n, nc, ns)) ∧ res = (.inl none, ((ab_up I50 mx_reading 1 ((I50 mx_reading 1) &&& (((1 : Int32) <<< (r3 &&& 31)) ^^^ (-1)))), L, ab_RR, n, nc, ns)))) ∧ (¬ (I4 mx 15) = 0 → (res = (.inl none, (I4, L, ab_RR, n, nc, ns)))))))))))))))) : ab_E w (d + 1) mt_M_readBroken 0 [.ref mx, .null] [] (I, L, ab_RR, n, nc, ns) res := by
  refine ab_aload_n (i := 0) d_M_readBroken_0 rfl rfl ?_
  obtain ⟨I2, hC, h⟩ := h
  refine ab_callV (me2 := mt_M_stepOn) (b := mx) (as := []) (st := []) (rv := none) (M2 := (I2, L, ab_RR, n, nc, ns)) d_M_readBroken_1 ce_M_stepOn v_1566 v_1568 v_67 (by decide) rfl (Nat.le_of_ble_eq_true rfl) hC (Nat.le_refl _) (Nat.le_refl _) hc hs (fun j h9 => by cases h9) (fun _ _ => rfl) ?_
  show ab_E w (d + 1) mt_M_readBroken 4 [.ref mx, .null] [] (I2, L, ab_RR, n, nc, ns) res
  refine ab_aload_n (i := 0) d_M_readBroken_4 rfl rfl ?_
  refine ab_iconst (v := 0) d_M_readBroken_5 rfl ?_
  refine ab_bipush (v := 23) d_M_readBroken_6 rfl ?_
  obtain ⟨r3, I4, hC, h⟩ := h
  refine ab_callV (me2 := mt_M_numberNow) (b := mx) (as := [.int 0, .int 23]) (st := []) (rv := (some (.int r3))) (M2 := (I4, L, ab_RR, n, nc, ns)) d_M_readBroken_8 ce_M_numberNow v_1608 v_1610 v_75 (by decide) rfl (Nat.le_of_ble_eq_true rfl) hC (Nat.le_refl _) (Nat.le_refl _) hc hs (fun j h9 => by cases h9) (fun _ _ => rfl) ?_
  show ab_E w (d + 1) mt_M_readBroken 11 [.ref mx, .null] [.int r3] (I4, L, ab_RR, n, nc, ns) res
  refine ab_istore_n (i := 1) d_M_readBroken_11 rfl (by decide) (Or.inr rfl) ?_
  refine ab_aload_n (i := 0) d_M_readBroken_12 rfl rfl ?_
  refine ab_getI (ci := 11) (k := 15) d_M_readBroken_13 v_1383 rfl (by decide) (by decide) rfl ?_
  refine ab_if_ne (tgt := 34) d_M_readBroken_16 (by decide) (fun c5 => ?_) (fun c5 => ?_)
  · have h := h.1 c5
    refine ab_aload_n (i := 0) d_M_readBroken_34 rfl rfl ?_
    refine ab_getI (ci := 11) (k := 15) d_M_readBroken_35 v_1383 rfl (by decide) (by decide) rfl ?_
    refine ab_if_ne (tgt := 59) d_M_readBroken_38 (by decide) (fun c6 => ?_) (fun c6 => ?_)
    · have h := h.1 c6
      refine ab_aload_n (i := 0) d_M_readBroken_59 rfl rfl ?_
      refine ab_getI (ci := 11) (k := 15) d_M_readBroken_60 v_1383 rfl (by decide) (by decide) rfl ?_
      refine ab_if_eq (tgt := 67) d_M_readBroken_63 (by decide) (fun c7 => ?_) (fun c7 => ?_)
      · have h := h.1 c7
        refine ab_aload_n (i := 0) d_M_readBroken_67 rfl rfl ?_
        obtain ⟨I9, hC, h⟩ := h
        refine ab_callV (me2 := mt_M_stepOn) (b := mx) (as := []) (st := []) (rv := none) (M2 := (I9, L, ab_RR, n, nc, ns)) d_M_readBroken_68 ce_M_stepOn v_1566 v_1568 v_67 (by decide) rfl (Nat.le_of_ble_eq_true rfl) hC (Nat.le_refl _) (Nat.le_refl _) hc hs (fun j h9 => by cases h9) (fun _ _ => rfl) ?_
        show ab_E w (d + 1) mt_M_readBroken 71 [.ref mx, .int r3] [] (I9, L, ab_RR, n, nc, ns) res
        refine ab_aload_n (i := 0) d_M_readBroken_71 rfl rfl ?_
        refine ab_getR (ci := 11) (k := 5) (j := mx_reading) d_M_readBroken_72 v_1373 rfl (by decide) (by decide) rfl r_mx_5 ?_
        refine ab_iconst (v := 1) d_M_readBroken_75 rfl ?_
        refine ab_dup2 d_M_readBroken_76 ?_
        refine ab_iald d_M_readBroken_77 rfl rfl (by unfold vp_in; decide) ?_
        refine ab_iconst (v := 1) d_M_readBroken_78 rfl ?_
        refine ab_iload_n (i := 1) d_M_readBroken_79 rfl rfl ?_
        refine ab_ishl d_M_readBroken_80 ?_
        refine ab_iconst (v := (-1)) d_M_readBroken_81 rfl ?_
        refine ab_ixor d_M_readBroken_82 ?_
        refine ab_iand d_M_readBroken_83 ?_
        refine ab_iast d_M_readBroken_84 rfl rfl (by unfold vp_in; decide) ?_
        exact ab_vret d_M_readBroken_85 rfl h
      · have h := h.2 c7
        exact ab_vret d_M_readBroken_66 rfl h
    · have h := h.2 c6
      refine ab_aload_n (i := 0) d_M_readBroken_41 rfl rfl ?_
      refine ab_getR (ci := 11) (k := 5) (j := mx_reading) d_M_readBroken_42 v_1373 rfl (by decide) (by decide) rfl r_mx_5 ?_
      refine ab_iconst (v := 1) d_M_readBroken_45 rfl ?_
      refine ab_iald d_M_readBroken_46 rfl rfl (by unfold vp_in; decide) ?_
      refine ab_iload_n (i := 1) d_M_readBroken_47 rfl rfl ?_
      refine ab_ishr d_M_readBroken_48 ?_
      refine ab_iconst (v := 1) d_M_readBroken_49 rfl ?_
      refine ab_iand d_M_readBroken_50 ?_
      refine ab_if_ne (tgt := 59) d_M_readBroken_51 (by decide) (fun c10 => ?_) (fun c10 => ?_)
      · have h := h.1 c10
        refine ab_aload_n (i := 0) d_M_readBroken_59 rfl rfl ?_
        refine ab_getI (ci := 11) (k := 15) d_M_readBroken_60 v_1383 rfl (by decide) (by decide) rfl ?_
        refine ab_if_eq (tgt := 67) d_M_readBroken_63 (by decide) (fun c11 => ?_) (fun c11 => ?_)
        · have h := h.1 c11
          refine ab_aload_n (i := 0) d_M_readBroken_67 rfl rfl ?_
          obtain ⟨I13, hC, h⟩ := h
          refine ab_callV (me2 := mt_M_stepOn) (b := mx) (as := []) (st := []) (rv := none) (M2 := (I13, L, ab_RR, n, nc, ns)) d_M_readBroken_68 ce_M_stepOn v_1566 v_1568 v_67 (by decide) rfl (Nat.le_of_ble_eq_true rfl) hC (Nat.le_refl _) (Nat.le_refl _) hc hs (fun j h9 => by cases h9) (fun _ _ => rfl) ?_
          show ab_E w (d + 1) mt_M_readBroken 71 [.ref mx, .int r3] [] (I13, L, ab_RR, n, nc, ns) res
          refine ab_aload_n (i := 0) d_M_readBroken_71 rfl rfl ?_
          refine ab_getR (ci := 11) (k := 5) (j := mx_reading) d_M_readBroken_72 v_1373 rfl (by decide) (by decide) rfl r_mx_5 ?_
          refine ab_iconst (v := 1) d_M_readBroken_75 rfl ?_
          refine ab_dup2 d_M_readBroken_76 ?_
          refine ab_iald d_M_readBroken_77 rfl rfl (by unfold vp_in; decide) ?_
          refine ab_iconst (v := 1) d_M_readBroken_78 rfl ?_
          refine ab_iload_n (i := 1) d_M_readBroken_79 rfl rfl ?_
          refine ab_ishl d_M_readBroken_80 ?_
          refine ab_iconst (v := (-1)) d_M_readBroken_81 rfl ?_
          refine ab_ixor d_M_readBroken_82 ?_
          refine ab_iand d_M_readBroken_83 ?_
          refine ab_iast d_M_readBroken_84 rfl rfl (by unfold vp_in; decide) ?_
          exact ab_vret d_M_readBroken_85 rfl h
        · have h := h.2 c11
          exact ab_vret d_M_readBroken_66 rfl h
      · have h := h.2 c10
        refine ab_aload_n (i := 0) d_M_readBroken_54 rfl rfl ?_
        refine ab_iconst (v := 4) d_M_readBroken_55 rfl ?_
        by_cases c16 : (I4 mx 15) = 0
        · have h := h.1 c16
          refine ab_callV (me2 := mt_M_wrong) (b := mx) (as := [.int 4]) (st := []) (rv := none) (M2 := ((ab_up (ab_up I4 mx 15 4) mx 16 (I4 mx 13)), L, ab_RR, n, nc, ns)) d_M_readBroken_56 ce_M_wrong v_1596 v_1598 v_72 (by decide) rfl (Nat.le_of_ble_eq_true rfl) (cx_M_wrong_0 4 hT c16) (Nat.le_refl _) (Nat.le_refl _) hc hs (fun j h9 => by cases h9) (fun _ _ => rfl) ?_
          show ab_E w (d + 1) mt_M_readBroken 59 [.ref mx, .int r3] [] ((ab_up (ab_up I4 mx 15 4) mx 16 (I4 mx 13)), L, ab_RR, n, nc, ns) res
          refine ab_aload_n (i := 0) d_M_readBroken_59 rfl rfl ?_
          refine ab_getI (ci := 11) (k := 15) d_M_readBroken_60 v_1383 rfl (by decide) (by decide) rfl ?_
          refine ab_if_eq (tgt := 67) d_M_readBroken_63 (by decide) (fun c9 => absurd c9 (show ¬ (4 : Int32) = 0 from by decide)) (fun _ => ?_)
          exact ab_vret d_M_readBroken_66 rfl h
        · have h := h.2 c16
          refine ab_callV (me2 := mt_M_wrong) (b := mx) (as := [.int 4]) (st := []) (rv := none) (M2 := (I4, L, ab_RR, n, nc, ns)) d_M_readBroken_56 ce_M_wrong v_1596 v_1598 v_72 (by decide) rfl (Nat.le_of_ble_eq_true rfl) (cx_M_wrong_1 4 hT c16) (Nat.le_refl _) (Nat.le_refl _) hc hs (fun j h9 => by cases h9) (fun _ _ => rfl) ?_
          show ab_E w (d + 1) mt_M_readBroken 59 [.ref mx, .int r3] [] (I4, L, ab_RR, n, nc, ns) res
          refine ab_aload_n (i := 0) d_M_readBroken_59 rfl rfl ?_
          refine ab_getI (ci := 11) (k := 15) d_M_readBroken_60 v_1383 rfl (by decide) (by decide) rfl ?_
          refine ab_if_eq (tgt := 67) d_M_readBroken_63 (by decide) (fun c17 => ?_) (fun c17 => ?_)
          · have h := h.1 c17
            refine ab_aload_n (i := 0) d_M_readBroken_67 rfl rfl ?_
            obtain ⟨I19, hC, h⟩ := h
            refine ab_callV (me2 := mt_M_stepOn) (b := mx) (as := []) (st := []) (rv := none) (M2 := (I19, L, ab_RR, n, nc, ns)) d_M_readBroken_68 ce_M_stepOn v_1566 v_1568 v_67 (by decide) rfl (Nat.le_of_ble_eq_true rfl) hC (Nat.le_refl _) (Nat.le_refl _) hc hs (fun j h9 => by cases h9) (fun _ _ => rfl) ?_
            show ab_E w (d + 1) mt_M_readBroken 71 [.ref mx, .int r3] [] (I19, L, ab_RR, n, nc, ns) res
            refine ab_aload_n (i := 0) d_M_readBroken_71 rfl rfl ?_
            refine ab_getR (ci := 11) (k := 5) (j := mx_reading) d_M_readBroken_72 v_1373 rfl (by decide) (by decide) rfl r_mx_5 ?_
            refine ab_iconst (v := 1) d_M_readBroken_75 rfl ?_
            refine ab_dup2 d_M_readBroken_76 ?_
            refine ab_iald d_M_readBroken_77 rfl rfl (by unfold vp_in; decide) ?_
            refine ab_iconst (v := 1) d_M_readBroken_78 rfl ?_
            refine ab_iload_n (i := 1) d_M_readBroken_79 rfl rfl ?_
            refine ab_ishl d_M_readBroken_80 ?_
            refine ab_iconst (v := (-1)) d_M_readBroken_81 rfl ?_
            refine ab_ixor d_M_readBroken_82 ?_
            refine ab_iand d_M_readBroken_83 ?_
            refine ab_iast d_M_readBroken_84 rfl rfl (by unfold vp_in; decide) ?_
            exact ab_vret d_M_readBroken_85 rfl h
          · have h := h.2 c17
            exact ab_vret d_M_readBroken_66 rfl h
  · have h := h.2 c5
    refine ab_iload_n (i := 1) d_M_readBroken_19 rfl rfl ?_
    refine ab_aload_n (i := 0) d_M_readBroken_20 rfl rfl ?_
    refine ab_getR (ci := 11) (k := 5) (j := mx_reading) d_M_readBroken_21 v_1373 rfl (by decide) (by decide) rfl r_mx_5 ?_
    refine ab_iconst (v := 0) d_M_readBroken_24 rfl ?_
    refine ab_iald d_M_readBroken_25 rfl rfl (by unfold vp_in; decide) ?_
    refine ab_icmp_lt (tgt := 34) d_M_readBroken_26 (by decide) (fun c20 => ?_) (fun c20 => ?_)
    · have h := h.1 c20
      refine ab_aload_n (i := 0) d_M_readBroken_34 rfl rfl ?_
      refine ab_getI (ci := 11) (k := 15) d_M_readBroken_35 v_1383 rfl (by decide) (by decide) rfl ?_
      refine ab_if_ne (tgt := 59) d_M_readBroken_38 (by decide) (fun c21 => ?_) (fun c21 => ?_)
      · have h := h.1 c21
        refine ab_aload_n (i := 0) d_M_readBroken_59 rfl rfl ?_
        refine ab_getI (ci := 11) (k := 15) d_M_readBroken_60 v_1383 rfl (by decide) (by decide) rfl ?_
        refine ab_if_eq (tgt := 67) d_M_readBroken_63 (by decide) (fun c22 => ?_) (fun c22 => ?_)
        · have h := h.1 c22
          refine ab_aload_n (i := 0) d_M_readBroken_67 rfl rfl ?_
          obtain ⟨I24, hC, h⟩ := h
          refine ab_callV (me2 := mt_M_stepOn) (b := mx) (as := []) (st := []) (rv := none) (M2 := (I24, L, ab_RR, n, nc, ns)) d_M_readBroken_68 ce_M_stepOn v_1566 v_1568 v_67 (by decide) rfl (Nat.le_of_ble_eq_true rfl) hC (Nat.le_refl _) (Nat.le_refl _) hc hs (fun j h9 => by cases h9) (fun _ _ => rfl) ?_
          show ab_E w (d + 1) mt_M_readBroken 71 [.ref mx, .int r3] [] (I24, L, ab_RR, n, nc, ns) res
          refine ab_aload_n (i := 0) d_M_readBroken_71 rfl rfl ?_
          refine ab_getR (ci := 11) (k := 5) (j := mx_reading) d_M_readBroken_72 v_1373 rfl (by decide) (by decide) rfl r_mx_5 ?_
          refine ab_iconst (v := 1) d_M_readBroken_75 rfl ?_
          refine ab_dup2 d_M_readBroken_76 ?_
          refine ab_iald d_M_readBroken_77 rfl rfl (by unfold vp_in; decide) ?_
          refine ab_iconst (v := 1) d_M_readBroken_78 rfl ?_
          refine ab_iload_n (i := 1) d_M_readBroken_79 rfl rfl ?_
          refine ab_ishl d_M_readBroken_80 ?_
          refine ab_iconst (v := (-1)) d_M_readBroken_81 rfl ?_
          refine ab_ixor d_M_readBroken_82 ?_
          refine ab_iand d_M_readBroken_83 ?_
          refine ab_iast d_M_readBroken_84 rfl rfl (by unfold vp_in; decide) ?_
          exact ab_vret d_M_readBroken_85 rfl h
        · have h := h.2 c22
          exact ab_vret d_M_readBroken_66 rfl h
      · have h := h.2 c21
        refine ab_aload_n (i := 0) d_M_readBroken_41 rfl rfl ?_
        refine ab_getR (ci := 11) (k := 5) (j := mx_reading) d_M_readBroken_42 v_1373 rfl (by decide) (by decide) rfl r_mx_5 ?_
        refine ab_iconst (v := 1) d_M_readBroken_45 rfl ?_
        refine ab_iald d_M_readBroken_46 rfl rfl (by unfold vp_in; decide) ?_
        refine ab_iload_n (i := 1) d_M_readBroken_47 rfl rfl ?_
        refine ab_ishr d_M_readBroken_48 ?_
        refine ab_iconst (v := 1) d_M_readBroken_49 rfl ?_
        refine ab_iand d_M_readBroken_50 ?_
        refine ab_if_ne (tgt := 59) d_M_readBroken_51 (by decide) (fun c25 => ?_) (fun c25 => ?_)
        · have h := h.1 c25
          refine ab_aload_n (i := 0) d_M_readBroken_59 rfl rfl ?_
          refine ab_getI (ci := 11) (k := 15) d_M_readBroken_60 v_1383 rfl (by decide) (by decide) rfl ?_
          refine ab_if_eq (tgt := 67) d_M_readBroken_63 (by decide) (fun c26 => ?_) (fun c26 => ?_)
          · have h := h.1 c26
            refine ab_aload_n (i := 0) d_M_readBroken_67 rfl rfl ?_
            obtain ⟨I28, hC, h⟩ := h
            refine ab_callV (me2 := mt_M_stepOn) (b := mx) (as := []) (st := []) (rv := none) (M2 := (I28, L, ab_RR, n, nc, ns)) d_M_readBroken_68 ce_M_stepOn v_1566 v_1568 v_67 (by decide) rfl (Nat.le_of_ble_eq_true rfl) hC (Nat.le_refl _) (Nat.le_refl _) hc hs (fun j h9 => by cases h9) (fun _ _ => rfl) ?_
            show ab_E w (d + 1) mt_M_readBroken 71 [.ref mx, .int r3] [] (I28, L, ab_RR, n, nc, ns) res
            refine ab_aload_n (i := 0) d_M_readBroken_71 rfl rfl ?_
            refine ab_getR (ci := 11) (k := 5) (j := mx_reading) d_M_readBroken_72 v_1373 rfl (by decide) (by decide) rfl r_mx_5 ?_
            refine ab_iconst (v := 1) d_M_readBroken_75 rfl ?_
            refine ab_dup2 d_M_readBroken_76 ?_
            refine ab_iald d_M_readBroken_77 rfl rfl (by unfold vp_in; decide) ?_
            refine ab_iconst (v := 1) d_M_readBroken_78 rfl ?_
            refine ab_iload_n (i := 1) d_M_readBroken_79 rfl rfl ?_
            refine ab_ishl d_M_readBroken_80 ?_
            refine ab_iconst (v := (-1)) d_M_readBroken_81 rfl ?_
            refine ab_ixor d_M_readBroken_82 ?_
            refine ab_iand d_M_readBroken_83 ?_
            refine ab_iast d_M_readBroken_84 rfl rfl (by unfold vp_in; decide) ?_
            exact ab_vret d_M_readBroken_85 rfl h
          · have h := h.2 c26
            exact ab_vret d_M_readBroken_66 rfl h
        · have h := h.2 c25
          refine ab_aload_n (i := 0) d_M_readBroken_54 rfl rfl ?_
          refine ab_iconst (v := 4) d_M_readBroken_55 rfl ?_
          by_cases c31 : (I4 mx 15) = 0
          · have h := h.1 c31
            refine ab_callV (me2 := mt_M_wrong) (b := mx) (as := [.int 4]) (st := []) (rv := none) (M2 := ((ab_up (ab_up I4 mx 15 4) mx 16 (I4 mx 13)), L, ab_RR, n, nc, ns)) d_M_readBroken_56 ce_M_wrong v_1596 v_1598 v_72 (by decide) rfl (Nat.le_of_ble_eq_true rfl) (cx_M_wrong_0 4 hT c31) (Nat.le_refl _) (Nat.le_refl _) hc hs (fun j h9 => by cases h9) (fun _ _ => rfl) ?_
            show ab_E w (d + 1) mt_M_readBroken 59 [.ref mx, .int r3] [] ((ab_up (ab_up I4 mx 15 4) mx 16 (I4 mx 13)), L, ab_RR, n, nc, ns) res
            refine ab_aload_n (i := 0) d_M_readBroken_59 rfl rfl ?_
            refine ab_getI (ci := 11) (k := 15) d_M_readBroken_60 v_1383 rfl (by decide) (by decide) rfl ?_
            refine ab_if_eq (tgt := 67) d_M_readBroken_63 (by decide) (fun c9 => absurd c9 (show ¬ (4 : Int32) = 0 from by decide)) (fun _ => ?_)
            exact ab_vret d_M_readBroken_66 rfl h
          · have h := h.2 c31
            refine ab_callV (me2 := mt_M_wrong) (b := mx) (as := [.int 4]) (st := []) (rv := none) (M2 := (I4, L, ab_RR, n, nc, ns)) d_M_readBroken_56 ce_M_wrong v_1596 v_1598 v_72 (by decide) rfl (Nat.le_of_ble_eq_true rfl) (cx_M_wrong_1 4 hT c31) (Nat.le_refl _) (Nat.le_refl _) hc hs (fun j h9 => by cases h9) (fun _ _ => rfl) ?_
            show ab_E w (d + 1) mt_M_readBroken 59 [.ref mx, .int r3] [] (I4, L, ab_RR, n, nc, ns) res
            refine ab_aload_n (i := 0) d_M_readBroken_59 rfl rfl ?_
            refine ab_getI (ci := 11) (k := 15) d_M_readBroken_60 v_1383 rfl (by decide) (by decide) rfl ?_
            refine ab_if_eq (tgt := 67) d_M_readBroken_63 (by decide) (fun c32 => ?_) (fun c32 => ?_)
            · have h := h.1 c32
              refine ab_aload_n (i := 0) d_M_readBroken_67 rfl rfl ?_
              obtain ⟨I34, hC, h⟩ := h
              refine ab_callV (me2 := mt_M_stepOn) (b := mx) (as := []) (st := []) (rv := none) (M2 := (I34, L, ab_RR, n, nc, ns)) d_M_readBroken_68 ce_M_stepOn v_1566 v_1568 v_67 (by decide) rfl (Nat.le_of_ble_eq_true rfl) hC (Nat.le_refl _) (Nat.le_refl _) hc hs (fun j h9 => by cases h9) (fun _ _ => rfl) ?_
              show ab_E w (d + 1) mt_M_readBroken 71 [.ref mx, .int r3] [] (I34, L, ab_RR, n, nc, ns) res
              refine ab_aload_n (i := 0) d_M_readBroken_71 rfl rfl ?_
              refine ab_getR (ci := 11) (k := 5) (j := mx_reading) d_M_readBroken_72 v_1373 rfl (by decide) (by decide) rfl r_mx_5 ?_
              refine ab_iconst (v := 1) d_M_readBroken_75 rfl ?_
              refine ab_dup2 d_M_readBroken_76 ?_
              refine ab_iald d_M_readBroken_77 rfl rfl (by unfold vp_in; decide) ?_
              refine ab_iconst (v := 1) d_M_readBroken_78 rfl ?_
              refine ab_iload_n (i := 1) d_M_readBroken_79 rfl rfl ?_
              refine ab_ishl d_M_readBroken_80 ?_
              refine ab_iconst (v := (-1)) d_M_readBroken_81 rfl ?_
              refine ab_ixor d_M_readBroken_82 ?_
              refine ab_iand d_M_readBroken_83 ?_
              refine ab_iast d_M_readBroken_84 rfl rfl (by unfold vp_in; decide) ?_
              exact ab_vret d_M_readBroken_85 rfl h
            · have h := h.2 c32
              exact ab_vret d_M_readBroken_66 rfl h
    · have h := h.2 c20
      refine ab_aload_n (i := 0) d_M_readBroken_29 rfl rfl ?_
      refine ab_iconst (v := 3) d_M_readBroken_30 rfl ?_
      by_cases c37 : (I4 mx 15) = 0
      · have h := h.1 c37
        refine ab_callV (me2 := mt_M_wrong) (b := mx) (as := [.int 3]) (st := []) (rv := none) (M2 := ((ab_up (ab_up I4 mx 15 3) mx 16 (I4 mx 13)), L, ab_RR, n, nc, ns)) d_M_readBroken_31 ce_M_wrong v_1596 v_1598 v_72 (by decide) rfl (Nat.le_of_ble_eq_true rfl) (cx_M_wrong_0 3 hT c37) (Nat.le_refl _) (Nat.le_refl _) hc hs (fun j h9 => by cases h9) (fun _ _ => rfl) ?_
        show ab_E w (d + 1) mt_M_readBroken 34 [.ref mx, .int r3] [] ((ab_up (ab_up I4 mx 15 3) mx 16 (I4 mx 13)), L, ab_RR, n, nc, ns) res
        refine ab_aload_n (i := 0) d_M_readBroken_34 rfl rfl ?_
        refine ab_getI (ci := 11) (k := 15) d_M_readBroken_35 v_1383 rfl (by decide) (by decide) rfl ?_
        refine ab_if_ne (tgt := 59) d_M_readBroken_38 (by decide) (fun _ => ?_) (fun c9 => absurd c9 (show ¬ (3 : Int32) = 0 from by decide))
        refine ab_aload_n (i := 0) d_M_readBroken_59 rfl rfl ?_
        refine ab_getI (ci := 11) (k := 15) d_M_readBroken_60 v_1383 rfl (by decide) (by decide) rfl ?_
        refine ab_if_eq (tgt := 67) d_M_readBroken_63 (by decide) (fun c9 => absurd c9 (show ¬ (3 : Int32) = 0 from by decide)) (fun _ => ?_)
        exact ab_vret d_M_readBroken_66 rfl h
      · have h := h.2 c37
        refine ab_callV (me2 := mt_M_wrong) (b := mx) (as := [.int 3]) (st := []) (rv := none) (M2 := (I4, L, ab_RR, n, nc, ns)) d_M_readBroken_31 ce_M_wrong v_1596 v_1598 v_72 (by decide) rfl (Nat.le_of_ble_eq_true rfl) (cx_M_wrong_1 3 hT c37) (Nat.le_refl _) (Nat.le_refl _) hc hs (fun j h9 => by cases h9) (fun _ _ => rfl) ?_
        show ab_E w (d + 1) mt_M_readBroken 34 [.ref mx, .int r3] [] (I4, L, ab_RR, n, nc, ns) res
        refine ab_aload_n (i := 0) d_M_readBroken_34 rfl rfl ?_
        refine ab_getI (ci := 11) (k := 15) d_M_readBroken_35 v_1383 rfl (by decide) (by decide) rfl ?_
        refine ab_if_ne (tgt := 59) d_M_readBroken_38 (by decide) (fun c38 => ?_) (fun c38 => ?_)
        · have h := h.1 c38
          refine ab_aload_n (i := 0) d_M_readBroken_59 rfl rfl ?_
          refine ab_getI (ci := 11) (k := 15) d_M_readBroken_60 v_1383 rfl (by decide) (by decide) rfl ?_
          refine ab_if_eq (tgt := 67) d_M_readBroken_63 (by decide) (fun c39 => ?_) (fun c39 => ?_)
          · have h := h.1 c39
            refine ab_aload_n (i := 0) d_M_readBroken_67 rfl rfl ?_
            obtain ⟨I41, hC, h⟩ := h
            refine ab_callV (me2 := mt_M_stepOn) (b := mx) (as := []) (st := []) (rv := none) (M2 := (I41, L, ab_RR, n, nc, ns)) d_M_readBroken_68 ce_M_stepOn v_1566 v_1568 v_67 (by decide) rfl (Nat.le_of_ble_eq_true rfl) hC (Nat.le_refl _) (Nat.le_refl _) hc hs (fun j h9 => by cases h9) (fun _ _ => rfl) ?_
            show ab_E w (d + 1) mt_M_readBroken 71 [.ref mx, .int r3] [] (I41, L, ab_RR, n, nc, ns) res
            refine ab_aload_n (i := 0) d_M_readBroken_71 rfl rfl ?_
            refine ab_getR (ci := 11) (k := 5) (j := mx_reading) d_M_readBroken_72 v_1373 rfl (by decide) (by decide) rfl r_mx_5 ?_
            refine ab_iconst (v := 1) d_M_readBroken_75 rfl ?_
            refine ab_dup2 d_M_readBroken_76 ?_
            refine ab_iald d_M_readBroken_77 rfl rfl (by unfold vp_in; decide) ?_
            refine ab_iconst (v := 1) d_M_readBroken_78 rfl ?_
            refine ab_iload_n (i := 1) d_M_readBroken_79 rfl rfl ?_
            refine ab_ishl d_M_readBroken_80 ?_
            refine ab_iconst (v := (-1)) d_M_readBroken_81 rfl ?_
            refine ab_ixor d_M_readBroken_82 ?_
            refine ab_iand d_M_readBroken_83 ?_
            refine ab_iast d_M_readBroken_84 rfl rfl (by unfold vp_in; decide) ?_
            exact ab_vret d_M_readBroken_85 rfl h
          · have h := h.2 c39
            exact ab_vret d_M_readBroken_66 rfl h
        · have h := h.2 c38
          refine ab_aload_n (i := 0) d_M_readBroken_41 rfl rfl ?_
          refine ab_getR (ci := 11) (k := 5) (j := mx_reading) d_M_readBroken_42 v_1373 rfl (by decide) (by decide) rfl r_mx_5 ?_
          refine ab_iconst (v := 1) d_M_readBroken_45 rfl ?_
          refine ab_iald d_M_readBroken_46 rfl rfl (by unfold vp_in; decide) ?_
          refine ab_iload_n (i := 1) d_M_readBroken_47 rfl rfl ?_
          refine ab_ishr d_M_readBroken_48 ?_
          refine ab_iconst (v := 1) d_M_readBroken_49 rfl ?_
          refine ab_iand d_M_readBroken_50 ?_
          refine ab_if_ne (tgt := 59) d_M_readBroken_51 (by decide) (fun c42 => ?_) (fun c42 => ?_)
          · have h := h.1 c42
            refine ab_aload_n (i := 0) d_M_readBroken_59 rfl rfl ?_
            refine ab_getI (ci := 11) (k := 15) d_M_readBroken_60 v_1383 rfl (by decide) (by decide) rfl ?_
            refine ab_if_eq (tgt := 67) d_M_readBroken_63 (by decide) (fun c43 => ?_) (fun c43 => ?_)
            · have h := h.1 c43
              refine ab_aload_n (i := 0) d_M_readBroken_67 rfl rfl ?_
              obtain ⟨I45, hC, h⟩ := h
              refine ab_callV (me2 := mt_M_stepOn) (b := mx) (as := []) (st := []) (rv := none) (M2 := (I45, L, ab_RR, n, nc, ns)) d_M_readBroken_68 ce_M_stepOn v_1566 v_1568 v_67 (by decide) rfl (Nat.le_of_ble_eq_true rfl) hC (Nat.le_refl _) (Nat.le_refl _) hc hs (fun j h9 => by cases h9) (fun _ _ => rfl) ?_
              show ab_E w (d + 1) mt_M_readBroken 71 [.ref mx, .int r3] [] (I45, L, ab_RR, n, nc, ns) res
              refine ab_aload_n (i := 0) d_M_readBroken_71 rfl rfl ?_
              refine ab_getR (ci := 11) (k := 5) (j := mx_reading) d_M_readBroken_72 v_1373 rfl (by decide) (by decide) rfl r_mx_5 ?_
              refine ab_iconst (v := 1) d_M_readBroken_75 rfl ?_
              refine ab_dup2 d_M_readBroken_76 ?_
              refine ab_iald d_M_readBroken_77 rfl rfl (by unfold vp_in; decide) ?_
              refine ab_iconst (v := 1) d_M_readBroken_78 rfl ?_
              refine ab_iload_n (i := 1) d_M_readBroken_79 rfl rfl ?_
              refine ab_ishl d_M_readBroken_80 ?_
              refine ab_iconst (v := (-1)) d_M_readBroken_81 rfl ?_
              refine ab_ixor d_M_readBroken_82 ?_
              refine ab_iand d_M_readBroken_83 ?_
              refine ab_iast d_M_readBroken_84 rfl rfl (by unfold vp_in; decide) ?_
              exact ab_vret d_M_readBroken_85 rfl h
            · have h := h.2 c43
              exact ab_vret d_M_readBroken_66 rfl h
          · have h := h.2 c42
            refine ab_aload_n (i := 0) d_M_readBroken_54 rfl rfl ?_
            refine ab_iconst (v := 4) d_M_readBroken_55 rfl ?_
            refine ab_callV (me2 := mt_M_wrong) (b := mx) (as := [.int 4]) (st := []) (rv := none) (M2 := (I4, L, ab_RR, n, nc, ns)) d_M_readBroken_56 ce_M_wrong v_1596 v_1598 v_72 (by decide) rfl (Nat.le_of_ble_eq_true rfl) (cx_M_wrong_1 4 hT c37) (Nat.le_refl _) (Nat.le_refl _) hc hs (fun j h9 => by cases h9) (fun _ _ => rfl) ?_
            show ab_E w (d + 1) mt_M_readBroken 59 [.ref mx, .int r3] [] (I4, L, ab_RR, n, nc, ns) res
            refine ab_aload_n (i := 0) d_M_readBroken_59 rfl rfl ?_
            refine ab_getI (ci := 11) (k := 15) d_M_readBroken_60 v_1383 rfl (by decide) (by decide) rfl ?_
            refine ab_if_eq (tgt := 67) d_M_readBroken_63 (by decide) (fun c48 => ?_) (fun c48 => ?_)
            · have h := h.1 c48
              refine ab_aload_n (i := 0) d_M_readBroken_67 rfl rfl ?_
              obtain ⟨I50, hC, h⟩ := h
              refine ab_callV (me2 := mt_M_stepOn) (b := mx) (as := []) (st := []) (rv := none) (M2 := (I50, L, ab_RR, n, nc, ns)) d_M_readBroken_68 ce_M_stepOn v_1566 v_1568 v_67 (by decide) rfl (Nat.le_of_ble_eq_true rfl) hC (Nat.le_refl _) (Nat.le_refl _) hc hs (fun j h9 => by cases h9) (fun _ _ => rfl) ?_
              show ab_E w (d + 1) mt_M_readBroken 71 [.ref mx, .int r3] [] (I50, L, ab_RR, n, nc, ns) res
              refine ab_aload_n (i := 0) d_M_readBroken_71 rfl rfl ?_
              refine ab_getR (ci := 11) (k := 5) (j := mx_reading) d_M_readBroken_72 v_1373 rfl (by decide) (by decide) rfl r_mx_5 ?_
              refine ab_iconst (v := 1) d_M_readBroken_75 rfl ?_
              refine ab_dup2 d_M_readBroken_76 ?_
              refine ab_iald d_M_readBroken_77 rfl rfl (by unfold vp_in; decide) ?_
              refine ab_iconst (v := 1) d_M_readBroken_78 rfl ?_
              refine ab_iload_n (i := 1) d_M_readBroken_79 rfl rfl ?_
              refine ab_ishl d_M_readBroken_80 ?_
              refine ab_iconst (v := (-1)) d_M_readBroken_81 rfl ?_
              refine ab_ixor d_M_readBroken_82 ?_
              refine ab_iand d_M_readBroken_83 ?_
              refine ab_iast d_M_readBroken_84 rfl rfl (by unfold vp_in; decide) ?_
              exact ab_vret d_M_readBroken_85 rfl h
            · have h := h.2 c48
              exact ab_vret d_M_readBroken_66 rfl h
theorem r_M_readClause_0 {w : ab_Wd} {d n nc ns : Nat} {I : Nat → Nat → Int32} {L : Nat → Nat → Int64} {res : ab_Re} (hT : w.1.stackTraces = false)  (hc : nc ≤ res.2.2.2.2.2.1) (hs : ns ≤ res.2.2.2.2.2.2)
    (h : ∃ (r1 : Int32), ab_C w d mt_M_which [.ref mx] (I, L, ab_RR, n, nc, ns) (.inl (some (.int r1)), (I, L, ab_RR, n, nc, ns)) ∧ ((¬ r1 = (-1) → (ab_E w (d + 1) mt_M_readClause 15 [.ref mx, .int r1] [] (I, L, ab_RR, n, nc, ns) res)) ∧ (r1 = (-1) → (((I mx 15) = 0 → (ab_E w (d + 1) mt_M_readClause 15 [.ref mx, .int r1] [] ((ab_up (ab_up I mx 15 1) mx 16 (I mx 13)), L, ab_RR, n, nc, ns) res)) ∧ (¬ (I mx 15) = 0 → (ab_E w (d + 1) mt_M_readClause 15 [.ref mx, .int r1] [] (I, L, ab_RR, n, nc, ns) res)))))) : ab_E w (d + 1) mt_M_readClause 0 [.ref mx, .null] [] (I, L, ab_RR, n, nc, ns) res := by
  refine ab_aload_n (i := 0) d_M_readClause_0 rfl rfl ?_
  obtain ⟨r1, hC, h⟩ := h
  refine ab_callV (me2 := mt_M_which) (b := mx) (as := []) (st := []) (rv := (some (.int r1))) (M2 := (I, L, ab_RR, n, nc, ns)) d_M_readClause_1 ce_M_which v_1586 v_1588 v_70 (by decide) rfl (Nat.le_of_ble_eq_true rfl) hC (Nat.le_refl _) (Nat.le_refl _) hc hs (fun j h9 => by cases h9) (fun _ _ => rfl) ?_
  show ab_E w (d + 1) mt_M_readClause 4 [.ref mx, .null] [.int r1] (I, L, ab_RR, n, nc, ns) res
  refine ab_istore_n (i := 1) d_M_readClause_4 rfl (by decide) (Or.inr rfl) ?_
  refine ab_iload_n (i := 1) d_M_readClause_5 rfl rfl ?_
  refine ab_iconst (v := (-1)) d_M_readClause_6 rfl ?_
  refine ab_icmp_ne (tgt := 15) d_M_readClause_7 (by decide) (fun c2 => ?_) (fun c2 => ?_)
  · have h := h.1 c2
    exact h
  · have h := h.2 c2
    refine ab_aload_n (i := 0) d_M_readClause_10 rfl rfl ?_
    refine ab_iconst (v := 1) d_M_readClause_11 rfl ?_
    by_cases c5 : (I mx 15) = 0
    · have h := h.1 c5
      refine ab_callV (me2 := mt_M_wrong) (b := mx) (as := [.int 1]) (st := []) (rv := none) (M2 := ((ab_up (ab_up I mx 15 1) mx 16 (I mx 13)), L, ab_RR, n, nc, ns)) d_M_readClause_12 ce_M_wrong v_1596 v_1598 v_72 (by decide) rfl (Nat.le_of_ble_eq_true rfl) (cx_M_wrong_0 1 hT c5) (Nat.le_refl _) (Nat.le_refl _) hc hs (fun j h9 => by cases h9) (fun _ _ => rfl) ?_
      show ab_E w (d + 1) mt_M_readClause 15 [.ref mx, .int r1] [] ((ab_up (ab_up I mx 15 1) mx 16 (I mx 13)), L, ab_RR, n, nc, ns) res
      exact h
    · have h := h.2 c5
      refine ab_callV (me2 := mt_M_wrong) (b := mx) (as := [.int 1]) (st := []) (rv := none) (M2 := (I, L, ab_RR, n, nc, ns)) d_M_readClause_12 ce_M_wrong v_1596 v_1598 v_72 (by decide) rfl (Nat.le_of_ble_eq_true rfl) (cx_M_wrong_1 1 hT c5) (Nat.le_refl _) (Nat.le_refl _) hc hs (fun j h9 => by cases h9) (fun _ _ => rfl) ?_
      show ab_E w (d + 1) mt_M_readClause 15 [.ref mx, .int r1] [] (I, L, ab_RR, n, nc, ns) res
      exact h
theorem r_M_readClause_15 {w : ab_Wd} {d n nc ns : Nat} {I : Nat → Nat → Int32} {L : Nat → Nat → Int64} {res : ab_Re} (hT : w.1.stackTraces = false) (v1 : Int32) (hc : nc ≤ res.2.2.2.2.2.1) (hs : ns ≤ res.2.2.2.2.2.2)
    (h : ((¬ v1 = 0 → (ab_E w (d + 1) mt_M_readClause 31 [.ref mx, .int v1] [] (I, L, ab_RR, n, nc, ns) res)) ∧ (v1 = 0 → (((I mx 18) ≤ 0 → (ab_E w (d + 1) mt_M_readClause 31 [.ref mx, .int v1] [] (I, L, ab_RR, n, nc, ns) res)) ∧ (¬ (I mx 18) ≤ 0 → (((I mx 15) = 0 → (ab_E w (d + 1) mt_M_readClause 31 [.ref mx, .int v1] [] ((ab_up (ab_up I mx 15 4) mx 16 (I mx 13)), L, ab_RR, n, nc, ns) res)) ∧ (¬ (I mx 15) = 0 → (ab_E w (d + 1) mt_M_readClause 31 [.ref mx, .int v1] [] (I, L, ab_RR, n, nc, ns) res)))))))) : ab_E w (d + 1) mt_M_readClause 15 [.ref mx, .int v1] [] (I, L, ab_RR, n, nc, ns) res := by
  refine ab_iload_n (i := 1) d_M_readClause_15 rfl rfl ?_
  refine ab_if_ne (tgt := 31) d_M_readClause_16 (by decide) (fun c1 => ?_) (fun c1 => ?_)
  · have h := h.1 c1
    exact h
  · have h := h.2 c1
    refine ab_aload_n (i := 0) d_M_readClause_19 rfl rfl ?_
    refine ab_getI (ci := 11) (k := 18) d_M_readClause_20 v_1386 rfl (by decide) (by decide) rfl ?_
    refine ab_if_le (tgt := 31) d_M_readClause_23 (by decide) (fun c2 => ?_) (fun c2 => ?_)
    · have h := h.1 c2
      exact h
    · have h := h.2 c2
      refine ab_aload_n (i := 0) d_M_readClause_26 rfl rfl ?_
      refine ab_iconst (v := 4) d_M_readClause_27 rfl ?_
      by_cases c5 : (I mx 15) = 0
      · have h := h.1 c5
        refine ab_callV (me2 := mt_M_wrong) (b := mx) (as := [.int 4]) (st := []) (rv := none) (M2 := ((ab_up (ab_up I mx 15 4) mx 16 (I mx 13)), L, ab_RR, n, nc, ns)) d_M_readClause_28 ce_M_wrong v_1596 v_1598 v_72 (by decide) rfl (Nat.le_of_ble_eq_true rfl) (cx_M_wrong_0 4 hT c5) (Nat.le_refl _) (Nat.le_refl _) hc hs (fun j h9 => by cases h9) (fun _ _ => rfl) ?_
        show ab_E w (d + 1) mt_M_readClause 31 [.ref mx, .int v1] [] ((ab_up (ab_up I mx 15 4) mx 16 (I mx 13)), L, ab_RR, n, nc, ns) res
        exact h
      · have h := h.2 c5
        refine ab_callV (me2 := mt_M_wrong) (b := mx) (as := [.int 4]) (st := []) (rv := none) (M2 := (I, L, ab_RR, n, nc, ns)) d_M_readClause_28 ce_M_wrong v_1596 v_1598 v_72 (by decide) rfl (Nat.le_of_ble_eq_true rfl) (cx_M_wrong_1 4 hT c5) (Nat.le_refl _) (Nat.le_refl _) hc hs (fun j h9 => by cases h9) (fun _ _ => rfl) ?_
        show ab_E w (d + 1) mt_M_readClause 31 [.ref mx, .int v1] [] (I, L, ab_RR, n, nc, ns) res
        exact h
theorem r_M_readClause_31 {w : ab_Wd} {d n nc ns : Nat} {I : Nat → Nat → Int32} {L : Nat → Nat → Int64} {res : ab_Re} (hT : w.1.stackTraces = false) (v1 : Int32) (hc : nc ≤ res.2.2.2.2.2.1) (hs : ns ≤ res.2.2.2.2.2.2)
    (h : (((I mx 15) = 0 → ((¬ v1 = 1 → ((¬ v1 = 2 → (∃ (I5 : Nat → Nat → Int32), ab_C w d mt_M_stepOn [.ref mx] (I, L, ab_RR, n, nc, ns) (.inl none, (I5, L, ab_RR, n, nc, ns)) ∧ ∃ (r6 : Int32) (I7 : Nat → Nat → Int32), ab_C w d mt_M_readNumber [.ref mx, .int 2, .int 10] (I5, L, ab_RR, n, nc, ns) (.inl (some (.int r6)), (I7, L, ab_RR, n, nc, ns)) ∧ ab_E w (d + 1) mt_M_readClause 78 [.ref mx, .int v1] [] ((ab_up I7 mx 3 r6), L, ab_RR, n, nc, ns) res)) ∧ (v1 = 2 → (∃ (I9 : Nat → Nat → Int32), ab_C w d mt_M_readBroken [.ref mx] (I, L, ab_RR, n, nc, ns) (.inl none, (I9, L, ab_RR, n, nc, ns)) ∧ ab_E w (d + 1) mt_M_readClause 78 [.ref mx, .int v1] [] (I9, L, ab_RR, n, nc, ns) res)))) ∧ (v1 = 1 → (∃ (I11 : Nat → Nat → Int32), ab_C w d mt_M_readCable [.ref mx] (I, L, ab_RR, n, nc, ns) (.inl none, (I11, L, ab_RR, n, nc, ns)) ∧ ab_E w (d + 1) mt_M_readClause 78 [.ref mx, .int v1] [] (I11, L, ab_RR, n, nc, ns) res)))) ∧ (¬ (I mx 15) = 0 → (res = (.inl none, (I, L, ab_RR, n, nc, ns)))))) : ab_E w (d + 1) mt_M_readClause 31 [.ref mx, .int v1] [] (I, L, ab_RR, n, nc, ns) res := by
  refine ab_aload_n (i := 0) d_M_readClause_31 rfl rfl ?_
  refine ab_getI (ci := 11) (k := 15) d_M_readClause_32 v_1383 rfl (by decide) (by decide) rfl ?_
  refine ab_if_eq (tgt := 39) d_M_readClause_35 (by decide) (fun c1 => ?_) (fun c1 => ?_)
  · have h := h.1 c1
    refine ab_iload_n (i := 1) d_M_readClause_39 rfl rfl ?_
    refine ab_iconst (v := 1) d_M_readClause_40 rfl ?_
    refine ab_icmp_ne (tgt := 51) d_M_readClause_41 (by decide) (fun c2 => ?_) (fun c2 => ?_)
    · have h := h.1 c2
      refine ab_iload_n (i := 1) d_M_readClause_51 rfl rfl ?_
      refine ab_iconst (v := 2) d_M_readClause_52 rfl ?_
      refine ab_icmp_ne (tgt := 63) d_M_readClause_53 (by decide) (fun c3 => ?_) (fun c3 => ?_)
      · have h := h.1 c3
        refine ab_aload_n (i := 0) d_M_readClause_63 rfl rfl ?_
        obtain ⟨I5, hC, h⟩ := h
        refine ab_callV (me2 := mt_M_stepOn) (b := mx) (as := []) (st := []) (rv := none) (M2 := (I5, L, ab_RR, n, nc, ns)) d_M_readClause_64 ce_M_stepOn v_1566 v_1568 v_67 (by decide) rfl (Nat.le_of_ble_eq_true rfl) hC (Nat.le_refl _) (Nat.le_refl _) hc hs (fun j h9 => by cases h9) (fun _ _ => rfl) ?_
        show ab_E w (d + 1) mt_M_readClause 67 [.ref mx, .int v1] [] (I5, L, ab_RR, n, nc, ns) res
        refine ab_aload_n (i := 0) d_M_readClause_67 rfl rfl ?_
        refine ab_aload_n (i := 0) d_M_readClause_68 rfl rfl ?_
        refine ab_iconst (v := 2) d_M_readClause_69 rfl ?_
        refine ab_bipush (v := 10) d_M_readClause_70 rfl ?_
        obtain ⟨r6, I7, hC, h⟩ := h
        refine ab_callV (me2 := mt_M_readNumber) (b := mx) (as := [.int 2, .int 10]) (st := [.ref mx]) (rv := (some (.int r6))) (M2 := (I7, L, ab_RR, n, nc, ns)) d_M_readClause_72 ce_M_readNumber v_1616 v_1618 v_77 (by decide) rfl (Nat.le_of_ble_eq_true rfl) hC (Nat.le_refl _) (Nat.le_refl _) hc hs (fun j h9 => by cases h9) (fun _ _ => rfl) ?_
        show ab_E w (d + 1) mt_M_readClause 75 [.ref mx, .int v1] [.int r6, .ref mx] (I7, L, ab_RR, n, nc, ns) res
        refine ab_putI (ci := 11) (k := 3) d_M_readClause_75 v_1371 rfl (by decide) (by decide) rfl (Or.inl rfl) rfl rfl ?_
        exact h
      · have h := h.2 c3
        refine ab_aload_n (i := 0) d_M_readClause_56 rfl rfl ?_
        obtain ⟨I9, hC, h⟩ := h
        refine ab_callV (me2 := mt_M_readBroken) (b := mx) (as := []) (st := []) (rv := none) (M2 := (I9, L, ab_RR, n, nc, ns)) d_M_readClause_57 ce_M_readBroken v_1620 v_1622 v_78 (by decide) rfl (Nat.le_of_ble_eq_true rfl) hC (Nat.le_refl _) (Nat.le_refl _) hc hs (fun j h9 => by cases h9) (fun _ _ => rfl) ?_
        show ab_E w (d + 1) mt_M_readClause 60 [.ref mx, .int v1] [] (I9, L, ab_RR, n, nc, ns) res
        refine ab_goto (tgt := 78) d_M_readClause_60 (by decide) ?_
        exact h
    · have h := h.2 c2
      refine ab_aload_n (i := 0) d_M_readClause_44 rfl rfl ?_
      obtain ⟨I11, hC, h⟩ := h
      refine ab_callV (me2 := mt_M_readCable) (b := mx) (as := []) (st := []) (rv := none) (M2 := (I11, L, ab_RR, n, nc, ns)) d_M_readClause_45 ce_M_readCable v_1600 v_1602 v_73 (by decide) rfl (Nat.le_of_ble_eq_true rfl) hC (Nat.le_refl _) (Nat.le_refl _) hc hs (fun j h9 => by cases h9) (fun _ _ => rfl) ?_
      show ab_E w (d + 1) mt_M_readClause 48 [.ref mx, .int v1] [] (I11, L, ab_RR, n, nc, ns) res
      refine ab_goto (tgt := 78) d_M_readClause_48 (by decide) ?_
      exact h
  · have h := h.2 c1
    exact ab_vret d_M_readClause_38 rfl h
theorem r_M_readClause_78 {w : ab_Wd} {d n nc ns : Nat} {I : Nat → Nat → Int32} {L : Nat → Nat → Int64} {res : ab_Re} (hT : w.1.stackTraces = false) (v1 : Int32) (hc : nc ≤ res.2.2.2.2.2.1) (hs : ns ≤ res.2.2.2.2.2.2)
    (h : ((¬ (I mx 15) = 0 → (ab_E w (d + 1) mt_M_readClause 98 [.ref mx, .int v1] [] (I, L, ab_RR, n, nc, ns) res)) ∧ ((I mx 15) = 0 → (((I mx 11) = 3 → (ab_E w (d + 1) mt_M_readClause 98 [.ref mx, .int v1] [] (I, L, ab_RR, n, nc, ns) res)) ∧ (¬ (I mx 11) = 3 → (((I mx 15) = 0 → (ab_E w (d + 1) mt_M_readClause 98 [.ref mx, .int v1] [] ((ab_up (ab_up I mx 15 1) mx 16 (I mx 13)), L, ab_RR, n, nc, ns) res)) ∧ (¬ (I mx 15) = 0 → (ab_E w (d + 1) mt_M_readClause 98 [.ref mx, .int v1] [] (I, L, ab_RR, n, nc, ns) res)))))))) : ab_E w (d + 1) mt_M_readClause 78 [.ref mx, .int v1] [] (I, L, ab_RR, n, nc, ns) res := by
  refine ab_aload_n (i := 0) d_M_readClause_78 rfl rfl ?_
  refine ab_getI (ci := 11) (k := 15) d_M_readClause_79 v_1383 rfl (by decide) (by decide) rfl ?_
  refine ab_if_ne (tgt := 98) d_M_readClause_82 (by decide) (fun c1 => ?_) (fun c1 => ?_)
  · have h := h.1 c1
    exact h
  · have h := h.2 c1
    refine ab_aload_n (i := 0) d_M_readClause_85 rfl rfl ?_
    refine ab_getI (ci := 11) (k := 11) d_M_readClause_86 v_1379 rfl (by decide) (by decide) rfl ?_
    refine ab_iconst (v := 3) d_M_readClause_89 rfl ?_
    refine ab_icmp_eq (tgt := 98) d_M_readClause_90 (by decide) (fun c2 => ?_) (fun c2 => ?_)
    · have h := h.1 c2
      exact h
    · have h := h.2 c2
      refine ab_aload_n (i := 0) d_M_readClause_93 rfl rfl ?_
      refine ab_iconst (v := 1) d_M_readClause_94 rfl ?_
      by_cases c5 : (I mx 15) = 0
      · have h := h.1 c5
        refine ab_callV (me2 := mt_M_wrong) (b := mx) (as := [.int 1]) (st := []) (rv := none) (M2 := ((ab_up (ab_up I mx 15 1) mx 16 (I mx 13)), L, ab_RR, n, nc, ns)) d_M_readClause_95 ce_M_wrong v_1596 v_1598 v_72 (by decide) rfl (Nat.le_of_ble_eq_true rfl) (cx_M_wrong_0 1 hT c5) (Nat.le_refl _) (Nat.le_refl _) hc hs (fun j h9 => by cases h9) (fun _ _ => rfl) ?_
        show ab_E w (d + 1) mt_M_readClause 98 [.ref mx, .int v1] [] ((ab_up (ab_up I mx 15 1) mx 16 (I mx 13)), L, ab_RR, n, nc, ns) res
        exact h
      · have h := h.2 c5
        refine ab_callV (me2 := mt_M_wrong) (b := mx) (as := [.int 1]) (st := []) (rv := none) (M2 := (I, L, ab_RR, n, nc, ns)) d_M_readClause_95 ce_M_wrong v_1596 v_1598 v_72 (by decide) rfl (Nat.le_of_ble_eq_true rfl) (cx_M_wrong_1 1 hT c5) (Nat.le_refl _) (Nat.le_refl _) hc hs (fun j h9 => by cases h9) (fun _ _ => rfl) ?_
        show ab_E w (d + 1) mt_M_readClause 98 [.ref mx, .int v1] [] (I, L, ab_RR, n, nc, ns) res
        exact h
theorem r_M_readClause_98 {w : ab_Wd} {d n nc ns : Nat} {I : Nat → Nat → Int32} {L : Nat → Nat → Int64} {res : ab_Re} (hT : w.1.stackTraces = false) (v1 : Int32) (hc : nc ≤ res.2.2.2.2.2.1) (hs : ns ≤ res.2.2.2.2.2.2)
    (h : ((¬ (I mx 15) = 0 → (ab_E w (d + 1) mt_M_readClause 109 [.ref mx, .int v1] [] (I, L, ab_RR, n, nc, ns) res)) ∧ ((I mx 15) = 0 → (∃ (I3 : Nat → Nat → Int32), ab_C w d mt_M_stepOn [.ref mx] (I, L, ab_RR, n, nc, ns) (.inl none, (I3, L, ab_RR, n, nc, ns)) ∧ ab_E w (d + 1) mt_M_readClause 109 [.ref mx, .int v1] [] (I3, L, ab_RR, n, nc, ns) res)))) : ab_E w (d + 1) mt_M_readClause 98 [.ref mx, .int v1] [] (I, L, ab_RR, n, nc, ns) res := by
  refine ab_aload_n (i := 0) d_M_readClause_98 rfl rfl ?_
  refine ab_getI (ci := 11) (k := 15) d_M_readClause_99 v_1383 rfl (by decide) (by decide) rfl ?_
  refine ab_if_ne (tgt := 109) d_M_readClause_102 (by decide) (fun c1 => ?_) (fun c1 => ?_)
  · have h := h.1 c1
    exact h
  · have h := h.2 c1
    refine ab_aload_n (i := 0) d_M_readClause_105 rfl rfl ?_
    obtain ⟨I3, hC, h⟩ := h
    refine ab_callV (me2 := mt_M_stepOn) (b := mx) (as := []) (st := []) (rv := none) (M2 := (I3, L, ab_RR, n, nc, ns)) d_M_readClause_106 ce_M_stepOn v_1566 v_1568 v_67 (by decide) rfl (Nat.le_of_ble_eq_true rfl) hC (Nat.le_refl _) (Nat.le_refl _) hc hs (fun j h9 => by cases h9) (fun _ _ => rfl) ?_
    show ab_E w (d + 1) mt_M_readClause 109 [.ref mx, .int v1] [] (I3, L, ab_RR, n, nc, ns) res
    exact h
theorem r_M_readClause_109 {w : ab_Wd} {d n nc ns : Nat} {I : Nat → Nat → Int32} {L : Nat → Nat → Int64} {res : ab_Re} (hT : w.1.stackTraces = false) (v1 : Int32) (hc : nc ≤ res.2.2.2.2.2.1) (hs : ns ≤ res.2.2.2.2.2.2)
    (h : res = (.inl none, ((ab_up I mx 18 ((I mx 18) + 1)), L, ab_RR, n, nc, ns))) : ab_E w (d + 1) mt_M_readClause 109 [.ref mx, .int v1] [] (I, L, ab_RR, n, nc, ns) res := by
  refine ab_aload_n (i := 0) d_M_readClause_109 rfl rfl ?_
  refine ab_dupr d_M_readClause_110 ?_
  refine ab_getI (ci := 11) (k := 18) d_M_readClause_111 v_1386 rfl (by decide) (by decide) rfl ?_
  refine ab_iconst (v := 1) d_M_readClause_114 rfl ?_
  refine ab_iadd d_M_readClause_115 ?_
  refine ab_putI (ci := 11) (k := 18) d_M_readClause_116 v_1386 rfl (by decide) (by decide) rfl (Or.inl rfl) rfl rfl ?_
  exact ab_vret d_M_readClause_119 rfl h
theorem r_M_net_0 {w : ab_Wd} {d n nc ns : Nat} {I : Nat → Nat → Int32} {L : Nat → Nat → Int64} {res : ab_Re} (hT : w.1.stackTraces = false) (v1 : Int32) (hc : nc ≤ res.2.2.2.2.2.1) (hs : ns ≤ res.2.2.2.2.2.2)
    (h : ((v1 < 0 → (res = (.inl (some (.int 0)), ((ab_up (ab_up I mx 1 0) mx 1 1), L, ab_RR, n, nc, ns)))) ∧ (¬ v1 < 0 → ((v1 ≤ (I mx 8) → (ab_E w (d + 1) mt_M_net 60 [.ref mx, .int v1, .int 0] [] ((ab_up (ab_up (ab_up (ab_up (ab_up (ab_up (ab_up (ab_up I mx 1 0) mx 8 0) mx 10 v1) mx 9 0) mx 15 0) mx 17 (-1)) mx 18 0) mx 3 (-1)), L, ab_RR, n, nc, ns) res)) ∧ (¬ v1 ≤ (I mx 8) → (res = (.inl (some (.int 0)), ((ab_up (ab_up I mx 1 0) mx 1 1), L, ab_RR, n, nc, ns)))))))) : ab_E w (d + 1) mt_M_net 0 [.ref mx, .int v1, .null] [] (I, L, ab_RR, n, nc, ns) res := by
  refine ab_aload_n (i := 0) d_M_net_0 rfl rfl ?_
  refine ab_iconst (v := 0) d_M_net_1 rfl ?_
  refine ab_putI (ci := 11) (k := 1) d_M_net_2 v_1369 rfl (by decide) (by decide) rfl (Or.inl rfl) rfl rfl ?_
  refine ab_iload_n (i := 1) d_M_net_5 rfl rfl ?_
  refine ab_if_lt (tgt := 17) d_M_net_6 (by decide) (fun c1 => ?_) (fun c1 => ?_)
  · have h := h.1 c1
    refine ab_aload_n (i := 0) d_M_net_17 rfl rfl ?_
    refine ab_iconst (v := 1) d_M_net_18 rfl ?_
    refine ab_callV (me2 := mt_M_fail) (b := mx) (as := [.int 1]) (st := []) (rv := (some (.int 0))) (M2 := ((ab_up (ab_up I mx 1 0) mx 1 1), L, ab_RR, n, nc, ns)) d_M_net_19 ce_M_fail v_1562 v_1564 v_66 (by decide) rfl (Nat.le_of_ble_eq_true rfl) (cx_M_fail_0 1 hT) (Nat.le_refl _) (Nat.le_refl _) hc hs (fun j h9 => by cases h9) (fun _ _ => rfl) ?_
    show ab_E w (d + 1) mt_M_net 22 [.ref mx, .int v1, .null] [.int 0] ((ab_up (ab_up I mx 1 0) mx 1 1), L, ab_RR, n, nc, ns) res
    exact ab_iret (ty := .int) d_M_net_22 rfl rfl h
  · have h := h.2 c1
    refine ab_iload_n (i := 1) d_M_net_9 rfl rfl ?_
    refine ab_aload_n (i := 0) d_M_net_10 rfl rfl ?_
    refine ab_getI (ci := 11) (k := 8) d_M_net_11 v_1376 rfl (by decide) (by decide) rfl ?_
    refine ab_icmp_le (tgt := 23) d_M_net_14 (by decide) (fun c4 => ?_) (fun c4 => ?_)
    · have h := h.1 c4
      refine ab_aload_n (i := 0) d_M_net_23 rfl rfl ?_
      refine ab_iconst (v := 0) d_M_net_24 rfl ?_
      refine ab_putI (ci := 11) (k := 8) d_M_net_25 v_1376 rfl (by decide) (by decide) rfl (Or.inl rfl) rfl rfl ?_
      refine ab_aload_n (i := 0) d_M_net_28 rfl rfl ?_
      refine ab_iload_n (i := 1) d_M_net_29 rfl rfl ?_
      refine ab_putI (ci := 11) (k := 10) d_M_net_30 v_1378 rfl (by decide) (by decide) rfl (Or.inl rfl) rfl rfl ?_
      refine ab_aload_n (i := 0) d_M_net_33 rfl rfl ?_
      refine ab_iconst (v := 0) d_M_net_34 rfl ?_
      refine ab_putI (ci := 11) (k := 9) d_M_net_35 v_1377 rfl (by decide) (by decide) rfl (Or.inl rfl) rfl rfl ?_
      refine ab_aload_n (i := 0) d_M_net_38 rfl rfl ?_
      refine ab_iconst (v := 0) d_M_net_39 rfl ?_
      refine ab_putI (ci := 11) (k := 15) d_M_net_40 v_1383 rfl (by decide) (by decide) rfl (Or.inl rfl) rfl rfl ?_
      refine ab_aload_n (i := 0) d_M_net_43 rfl rfl ?_
      refine ab_iconst (v := (-1)) d_M_net_44 rfl ?_
      refine ab_putI (ci := 11) (k := 17) d_M_net_45 v_1385 rfl (by decide) (by decide) rfl (Or.inl rfl) rfl rfl ?_
      refine ab_aload_n (i := 0) d_M_net_48 rfl rfl ?_
      refine ab_iconst (v := 0) d_M_net_49 rfl ?_
      refine ab_putI (ci := 11) (k := 18) d_M_net_50 v_1386 rfl (by decide) (by decide) rfl (Or.inl rfl) rfl rfl ?_
      refine ab_aload_n (i := 0) d_M_net_53 rfl rfl ?_
      refine ab_iconst (v := (-1)) d_M_net_54 rfl ?_
      refine ab_putI (ci := 11) (k := 3) d_M_net_55 v_1371 rfl (by decide) (by decide) rfl (Or.inl rfl) rfl rfl ?_
      refine ab_iconst (v := 0) d_M_net_58 rfl ?_
      refine ab_istore_n (i := 2) d_M_net_59 rfl (by decide) (Or.inr rfl) ?_
      exact h
    · have h := h.2 c4
      refine ab_aload_n (i := 0) d_M_net_17 rfl rfl ?_
      refine ab_iconst (v := 1) d_M_net_18 rfl ?_
      refine ab_callV (me2 := mt_M_fail) (b := mx) (as := [.int 1]) (st := []) (rv := (some (.int 0))) (M2 := ((ab_up (ab_up I mx 1 0) mx 1 1), L, ab_RR, n, nc, ns)) d_M_net_19 ce_M_fail v_1562 v_1564 v_66 (by decide) rfl (Nat.le_of_ble_eq_true rfl) (cx_M_fail_0 1 hT) (Nat.le_refl _) (Nat.le_refl _) hc hs (fun j h9 => by cases h9) (fun _ _ => rfl) ?_
      show ab_E w (d + 1) mt_M_net 22 [.ref mx, .int v1, .null] [.int 0] ((ab_up (ab_up I mx 1 0) mx 1 1), L, ab_RR, n, nc, ns) res
      exact ab_iret (ty := .int) d_M_net_22 rfl rfl h
theorem r_M_net_60 {w : ab_Wd} {d n nc ns : Nat} {I : Nat → Nat → Int32} {L : Nat → Nat → Int64} {res : ab_Re} (hT : w.1.stackTraces = false) (v1 : Int32) (v2 : Int32) (hc : nc ≤ res.2.2.2.2.2.1) (hs : ns ≤ res.2.2.2.2.2.2)
    (h : ((399 ≤ v2 → (∃ (I3 : Nat → Nat → Int32), ab_C w d mt_M_stepOn [.ref mx] (I, L, ab_RR, n, nc, ns) (.inl none, (I3, L, ab_RR, n, nc, ns)) ∧ ab_E w (d + 1) mt_M_net 84 [.ref mx, .int v1, .int v2] [] (I3, L, ab_RR, n, nc, ns) res)) ∧ (¬ 399 ≤ v2 → ((vp_in v2 399) ∧ ab_E w (d + 1) mt_M_net 60 [.ref mx, .int v1, .int (v2 + 1)] [] ((ab_up I mx_reading v2.toNatClampNeg 0), L, ab_RR, n, nc, ns) res)))) : ab_E w (d + 1) mt_M_net 60 [.ref mx, .int v1, .int v2] [] (I, L, ab_RR, n, nc, ns) res := by
  refine ab_iload_n (i := 2) d_M_net_60 rfl rfl ?_
  refine ab_sipush (v := 399) d_M_net_61 rfl ?_
  refine ab_icmp_ge (tgt := 80) d_M_net_64 (by decide) (fun c1 => ?_) (fun c1 => ?_)
  · have h := h.1 c1
    refine ab_aload_n (i := 0) d_M_net_80 rfl rfl ?_
    obtain ⟨I3, hC, h⟩ := h
    refine ab_callV (me2 := mt_M_stepOn) (b := mx) (as := []) (st := []) (rv := none) (M2 := (I3, L, ab_RR, n, nc, ns)) d_M_net_81 ce_M_stepOn v_1566 v_1568 v_67 (by decide) rfl (Nat.le_of_ble_eq_true rfl) hC (Nat.le_refl _) (Nat.le_refl _) hc hs (fun j h9 => by cases h9) (fun _ _ => rfl) ?_
    show ab_E w (d + 1) mt_M_net 84 [.ref mx, .int v1, .int v2] [] (I3, L, ab_RR, n, nc, ns) res
    exact h
  · have h := h.2 c1
    refine ab_aload_n (i := 0) d_M_net_67 rfl rfl ?_
    refine ab_getR (ci := 11) (k := 5) (j := mx_reading) d_M_net_68 v_1373 rfl (by decide) (by decide) rfl r_mx_5 ?_
    refine ab_iload_n (i := 2) d_M_net_71 rfl rfl ?_
    refine ab_iconst (v := 0) d_M_net_72 rfl ?_
    have g4 := h.1; have h := h.2
    refine ab_iast d_M_net_73 rfl rfl g4 ?_
    refine ab_iinc (i := 2) (v := (v2 + 1)) d_M_net_74 rfl rfl (by decide) (Or.inr rfl) ?_
    refine ab_goto (tgt := 60) d_M_net_77 (by decide) ?_
    exact h
theorem r_M_net_84 {w : ab_Wd} {d n nc ns : Nat} {I : Nat → Nat → Int32} {L : Nat → Nat → Int64} {res : ab_Re} (hT : w.1.stackTraces = false) (v1 : Int32) (v2 : Int32) (hc : nc ≤ res.2.2.2.2.2.1) (hs : ns ≤ res.2.2.2.2.2.2)
    (h : ((¬ (I mx 15) = 0 → (((I mx 15) = 0 → (((I mx 3) = (-1) → (∃ (I6 : Nat → Nat → Int32), ab_C w d mt_M_copyTo [.ref mx_now, .ref mx_reading] ((ab_up I mx 2 4), L, ab_RR, n, nc, ns) (.inl none, (I6, L, ab_RR, n, nc, ns)) ∧ res = (.inl (some (.int 0)), ((ab_up (ab_up (ab_up I6 mx 41 0) mx 43 0) mx 52 0), L, ab_RR, n, nc, ns)))) ∧ (¬ (I mx 3) = (-1) → (∃ (I8 : Nat → Nat → Int32), ab_C w d mt_M_copyTo [.ref mx_now, .ref mx_reading] ((ab_up I mx 2 (I mx 3)), L, ab_RR, n, nc, ns) (.inl none, (I8, L, ab_RR, n, nc, ns)) ∧ res = (.inl (some (.int 0)), ((ab_up (ab_up (ab_up I8 mx 41 0) mx 43 0) mx 52 0), L, ab_RR, n, nc, ns)))))) ∧ (¬ (I mx 15) = 0 → (res = (.inl (some (.int (I mx 15))), ((ab_up (ab_up I mx 17 (I mx 16)) mx_status 0 ((I mx_status 0) + 1)), L, ab_RR, n, nc, ns)))))) ∧ ((I mx 15) = 0 → (((I mx 11) = 0 → (((I mx 15) = 0 → (((I mx 3) = (-1) → (∃ (I14 : Nat → Nat → Int32), ab_C w d mt_M_copyTo [.ref mx_now, .ref mx_reading] ((ab_up I mx 2 4), L, ab_RR, n, nc, ns) (.inl none, (I14, L, ab_RR, n, nc, ns)) ∧ res = (.inl (some (.int 0)), ((ab_up (ab_up (ab_up I14 mx 41 0) mx 43 0) mx 52 0), L, ab_RR, n, nc, ns)))) ∧ (¬ (I mx 3) = (-1) → (∃ (I16 : Nat → Nat → Int32), ab_C w d mt_M_copyTo [.ref mx_now, .ref mx_reading] ((ab_up I mx 2 (I mx 3)), L, ab_RR, n, nc, ns) (.inl none, (I16, L, ab_RR, n, nc, ns)) ∧ res = (.inl (some (.int 0)), ((ab_up (ab_up (ab_up I16 mx 41 0) mx 43 0) mx 52 0), L, ab_RR, n, nc, ns)))))) ∧ (¬ (I mx 15) = 0 → (res = (.inl (some (.int (I mx 15))), ((ab_up (ab_up I mx 17 (I mx 16)) mx_status 0 ((I mx_status 0) + 1)), L, ab_RR, n, nc, ns)))))) ∧ (¬ (I mx 11) = 0 → (∃ (I18 : Nat → Nat → Int32), ab_C w d mt_M_readClause [.ref mx] (I, L, ab_RR, n, nc, ns) (.inl none, (I18, L, ab_RR, n, nc, ns)) ∧ ab_E w (d + 1) mt_M_net 84 [.ref mx, .int v1, .int v2] [] (I18, L, ab_RR, n, nc, ns) res)))))) : ab_E w (d + 1) mt_M_net 84 [.ref mx, .int v1, .int v2] [] (I, L, ab_RR, n, nc, ns) res := by
  refine ab_aload_n (i := 0) d_M_net_84 rfl rfl ?_
  refine ab_getI (ci := 11) (k := 15) d_M_net_85 v_1383 rfl (by decide) (by decide) rfl ?_
  refine ab_if_ne (tgt := 105) d_M_net_88 (by decide) (fun c1 => ?_) (fun c1 => ?_)
  · have h := h.1 c1
    refine ab_aload_n (i := 0) d_M_net_105 rfl rfl ?_
    refine ab_getI (ci := 11) (k := 15) d_M_net_106 v_1383 rfl (by decide) (by decide) rfl ?_
    refine ab_if_eq (tgt := 135) d_M_net_109 (by decide) (fun c2 => ?_) (fun c2 => ?_)
    · have h := h.1 c2
      refine ab_aload_n (i := 0) d_M_net_135 rfl rfl ?_
      refine ab_aload_n (i := 0) d_M_net_136 rfl rfl ?_
      by_cases c4 : (I mx 3) = (-1)
      · have h := h.1 c4
        refine ab_callV (me2 := mt_M_sitesRead) (b := mx) (as := []) (st := [.ref mx]) (rv := (some (.int 4))) (M2 := (I, L, ab_RR, n, nc, ns)) d_M_net_137 ce_M_sitesRead v_1612 v_1614 v_76 (by decide) rfl (Nat.le_of_ble_eq_true rfl) (cx_M_sitesRead_1  hT c4) (Nat.le_refl _) (Nat.le_refl _) hc hs (fun j h9 => by cases h9) (fun _ _ => rfl) ?_
        show ab_E w (d + 1) mt_M_net 140 [.ref mx, .int v1, .int v2] [.int 4, .ref mx] (I, L, ab_RR, n, nc, ns) res
        refine ab_putI (ci := 11) (k := 2) d_M_net_140 v_1370 rfl (by decide) (by decide) rfl (Or.inl rfl) rfl rfl ?_
        refine ab_aload_n (i := 0) d_M_net_143 rfl rfl ?_
        refine ab_getR (ci := 11) (k := 4) (j := mx_now) d_M_net_144 v_1372 rfl (by decide) (by decide) rfl r_mx_4 ?_
        refine ab_aload_n (i := 0) d_M_net_147 rfl rfl ?_
        refine ab_getR (ci := 11) (k := 5) (j := mx_reading) d_M_net_148 v_1373 rfl (by decide) (by decide) rfl r_mx_5 ?_
        obtain ⟨I6, hC, h⟩ := h
        refine ab_callS (me2 := mt_M_copyTo) (as := [.ref mx_now, .ref mx_reading]) (st := []) (rv := none) (M2 := (I6, L, ab_RR, n, nc, ns)) d_M_net_151 ce_M_copyTo ⟨v_1625, Or.inl v_1624⟩ (Nat.le_of_ble_eq_true rfl) hC (Nat.le_refl _) (Nat.le_refl _) hc hs (fun j h9 => by cases h9) (fun _ _ => rfl) ?_
        show ab_E w (d + 1) mt_M_net 154 [.ref mx, .int v1, .int v2] [] (I6, L, ab_RR, n, nc, ns) res
        refine ab_aload_n (i := 0) d_M_net_154 rfl rfl ?_
        refine ab_iconst (v := 0) d_M_net_155 rfl ?_
        refine ab_putI (ci := 11) (k := 41) d_M_net_156 v_1409 rfl (by decide) (by decide) rfl (Or.inl rfl) rfl rfl ?_
        refine ab_aload_n (i := 0) d_M_net_159 rfl rfl ?_
        refine ab_iconst (v := 0) d_M_net_160 rfl ?_
        refine ab_putI (ci := 11) (k := 43) d_M_net_161 v_1411 rfl (by decide) (by decide) rfl (Or.inl rfl) rfl rfl ?_
        refine ab_aload_n (i := 0) d_M_net_164 rfl rfl ?_
        refine ab_iconst (v := 0) d_M_net_165 rfl ?_
        refine ab_putI (ci := 11) (k := 52) d_M_net_166 v_1420 rfl (by decide) (by decide) rfl (Or.inl rfl) rfl rfl ?_
        refine ab_iconst (v := 0) d_M_net_169 rfl ?_
        exact ab_iret (ty := .int) d_M_net_170 rfl rfl h
      · have h := h.2 c4
        refine ab_callV (me2 := mt_M_sitesRead) (b := mx) (as := []) (st := [.ref mx]) (rv := (some (.int (I mx 3)))) (M2 := (I, L, ab_RR, n, nc, ns)) d_M_net_137 ce_M_sitesRead v_1612 v_1614 v_76 (by decide) rfl (Nat.le_of_ble_eq_true rfl) (cx_M_sitesRead_0  hT c4) (Nat.le_refl _) (Nat.le_refl _) hc hs (fun j h9 => by cases h9) (fun _ _ => rfl) ?_
        show ab_E w (d + 1) mt_M_net 140 [.ref mx, .int v1, .int v2] [.int (I mx 3), .ref mx] (I, L, ab_RR, n, nc, ns) res
        refine ab_putI (ci := 11) (k := 2) d_M_net_140 v_1370 rfl (by decide) (by decide) rfl (Or.inl rfl) rfl rfl ?_
        refine ab_aload_n (i := 0) d_M_net_143 rfl rfl ?_
        refine ab_getR (ci := 11) (k := 4) (j := mx_now) d_M_net_144 v_1372 rfl (by decide) (by decide) rfl r_mx_4 ?_
        refine ab_aload_n (i := 0) d_M_net_147 rfl rfl ?_
        refine ab_getR (ci := 11) (k := 5) (j := mx_reading) d_M_net_148 v_1373 rfl (by decide) (by decide) rfl r_mx_5 ?_
        obtain ⟨I8, hC, h⟩ := h
        refine ab_callS (me2 := mt_M_copyTo) (as := [.ref mx_now, .ref mx_reading]) (st := []) (rv := none) (M2 := (I8, L, ab_RR, n, nc, ns)) d_M_net_151 ce_M_copyTo ⟨v_1625, Or.inl v_1624⟩ (Nat.le_of_ble_eq_true rfl) hC (Nat.le_refl _) (Nat.le_refl _) hc hs (fun j h9 => by cases h9) (fun _ _ => rfl) ?_
        show ab_E w (d + 1) mt_M_net 154 [.ref mx, .int v1, .int v2] [] (I8, L, ab_RR, n, nc, ns) res
        refine ab_aload_n (i := 0) d_M_net_154 rfl rfl ?_
        refine ab_iconst (v := 0) d_M_net_155 rfl ?_
        refine ab_putI (ci := 11) (k := 41) d_M_net_156 v_1409 rfl (by decide) (by decide) rfl (Or.inl rfl) rfl rfl ?_
        refine ab_aload_n (i := 0) d_M_net_159 rfl rfl ?_
        refine ab_iconst (v := 0) d_M_net_160 rfl ?_
        refine ab_putI (ci := 11) (k := 43) d_M_net_161 v_1411 rfl (by decide) (by decide) rfl (Or.inl rfl) rfl rfl ?_
        refine ab_aload_n (i := 0) d_M_net_164 rfl rfl ?_
        refine ab_iconst (v := 0) d_M_net_165 rfl ?_
        refine ab_putI (ci := 11) (k := 52) d_M_net_166 v_1420 rfl (by decide) (by decide) rfl (Or.inl rfl) rfl rfl ?_
        refine ab_iconst (v := 0) d_M_net_169 rfl ?_
        exact ab_iret (ty := .int) d_M_net_170 rfl rfl h
    · have h := h.2 c2
      refine ab_aload_n (i := 0) d_M_net_112 rfl rfl ?_
      refine ab_aload_n (i := 0) d_M_net_113 rfl rfl ?_
      refine ab_getI (ci := 11) (k := 16) d_M_net_114 v_1384 rfl (by decide) (by decide) rfl ?_
      refine ab_putI (ci := 11) (k := 17) d_M_net_117 v_1385 rfl (by decide) (by decide) rfl (Or.inl rfl) rfl rfl ?_
      refine ab_aload_n (i := 0) d_M_net_120 rfl rfl ?_
      refine ab_getR (ci := 11) (k := 6) (j := mx_status) d_M_net_121 v_1374 rfl (by decide) (by decide) rfl r_mx_6 ?_
      refine ab_iconst (v := 0) d_M_net_124 rfl ?_
      refine ab_dup2 d_M_net_125 ?_
      refine ab_iald d_M_net_126 rfl rfl (by unfold vp_in; decide) ?_
      refine ab_iconst (v := 1) d_M_net_127 rfl ?_
      refine ab_iadd d_M_net_128 ?_
      refine ab_iast d_M_net_129 rfl rfl (by unfold vp_in; decide) ?_
      refine ab_aload_n (i := 0) d_M_net_130 rfl rfl ?_
      refine ab_getI (ci := 11) (k := 15) d_M_net_131 v_1383 rfl (by decide) (by decide) rfl ?_
      exact ab_iret (ty := .int) d_M_net_134 rfl rfl h
  · have h := h.2 c1
    refine ab_aload_n (i := 0) d_M_net_91 rfl rfl ?_
    refine ab_getI (ci := 11) (k := 11) d_M_net_92 v_1379 rfl (by decide) (by decide) rfl ?_
    refine ab_if_eq (tgt := 105) d_M_net_95 (by decide) (fun c9 => ?_) (fun c9 => ?_)
    · have h := h.1 c9
      refine ab_aload_n (i := 0) d_M_net_105 rfl rfl ?_
      refine ab_getI (ci := 11) (k := 15) d_M_net_106 v_1383 rfl (by decide) (by decide) rfl ?_
      refine ab_if_eq (tgt := 135) d_M_net_109 (by decide) (fun c10 => ?_) (fun c10 => ?_)
      · have h := h.1 c10
        refine ab_aload_n (i := 0) d_M_net_135 rfl rfl ?_
        refine ab_aload_n (i := 0) d_M_net_136 rfl rfl ?_
        by_cases c12 : (I mx 3) = (-1)
        · have h := h.1 c12
          refine ab_callV (me2 := mt_M_sitesRead) (b := mx) (as := []) (st := [.ref mx]) (rv := (some (.int 4))) (M2 := (I, L, ab_RR, n, nc, ns)) d_M_net_137 ce_M_sitesRead v_1612 v_1614 v_76 (by decide) rfl (Nat.le_of_ble_eq_true rfl) (cx_M_sitesRead_1  hT c12) (Nat.le_refl _) (Nat.le_refl _) hc hs (fun j h9 => by cases h9) (fun _ _ => rfl) ?_
          show ab_E w (d + 1) mt_M_net 140 [.ref mx, .int v1, .int v2] [.int 4, .ref mx] (I, L, ab_RR, n, nc, ns) res
          refine ab_putI (ci := 11) (k := 2) d_M_net_140 v_1370 rfl (by decide) (by decide) rfl (Or.inl rfl) rfl rfl ?_
          refine ab_aload_n (i := 0) d_M_net_143 rfl rfl ?_
          refine ab_getR (ci := 11) (k := 4) (j := mx_now) d_M_net_144 v_1372 rfl (by decide) (by decide) rfl r_mx_4 ?_
          refine ab_aload_n (i := 0) d_M_net_147 rfl rfl ?_
          refine ab_getR (ci := 11) (k := 5) (j := mx_reading) d_M_net_148 v_1373 rfl (by decide) (by decide) rfl r_mx_5 ?_
          obtain ⟨I14, hC, h⟩ := h
          refine ab_callS (me2 := mt_M_copyTo) (as := [.ref mx_now, .ref mx_reading]) (st := []) (rv := none) (M2 := (I14, L, ab_RR, n, nc, ns)) d_M_net_151 ce_M_copyTo ⟨v_1625, Or.inl v_1624⟩ (Nat.le_of_ble_eq_true rfl) hC (Nat.le_refl _) (Nat.le_refl _) hc hs (fun j h9 => by cases h9) (fun _ _ => rfl) ?_
          show ab_E w (d + 1) mt_M_net 154 [.ref mx, .int v1, .int v2] [] (I14, L, ab_RR, n, nc, ns) res
          refine ab_aload_n (i := 0) d_M_net_154 rfl rfl ?_
          refine ab_iconst (v := 0) d_M_net_155 rfl ?_
          refine ab_putI (ci := 11) (k := 41) d_M_net_156 v_1409 rfl (by decide) (by decide) rfl (Or.inl rfl) rfl rfl ?_
          refine ab_aload_n (i := 0) d_M_net_159 rfl rfl ?_
          refine ab_iconst (v := 0) d_M_net_160 rfl ?_
          refine ab_putI (ci := 11) (k := 43) d_M_net_161 v_1411 rfl (by decide) (by decide) rfl (Or.inl rfl) rfl rfl ?_
          refine ab_aload_n (i := 0) d_M_net_164 rfl rfl ?_
          refine ab_iconst (v := 0) d_M_net_165 rfl ?_
          refine ab_putI (ci := 11) (k := 52) d_M_net_166 v_1420 rfl (by decide) (by decide) rfl (Or.inl rfl) rfl rfl ?_
          refine ab_iconst (v := 0) d_M_net_169 rfl ?_
          exact ab_iret (ty := .int) d_M_net_170 rfl rfl h
        · have h := h.2 c12
          refine ab_callV (me2 := mt_M_sitesRead) (b := mx) (as := []) (st := [.ref mx]) (rv := (some (.int (I mx 3)))) (M2 := (I, L, ab_RR, n, nc, ns)) d_M_net_137 ce_M_sitesRead v_1612 v_1614 v_76 (by decide) rfl (Nat.le_of_ble_eq_true rfl) (cx_M_sitesRead_0  hT c12) (Nat.le_refl _) (Nat.le_refl _) hc hs (fun j h9 => by cases h9) (fun _ _ => rfl) ?_
          show ab_E w (d + 1) mt_M_net 140 [.ref mx, .int v1, .int v2] [.int (I mx 3), .ref mx] (I, L, ab_RR, n, nc, ns) res
          refine ab_putI (ci := 11) (k := 2) d_M_net_140 v_1370 rfl (by decide) (by decide) rfl (Or.inl rfl) rfl rfl ?_
          refine ab_aload_n (i := 0) d_M_net_143 rfl rfl ?_
          refine ab_getR (ci := 11) (k := 4) (j := mx_now) d_M_net_144 v_1372 rfl (by decide) (by decide) rfl r_mx_4 ?_
          refine ab_aload_n (i := 0) d_M_net_147 rfl rfl ?_
          refine ab_getR (ci := 11) (k := 5) (j := mx_reading) d_M_net_148 v_1373 rfl (by decide) (by decide) rfl r_mx_5 ?_
          obtain ⟨I16, hC, h⟩ := h
          refine ab_callS (me2 := mt_M_copyTo) (as := [.ref mx_now, .ref mx_reading]) (st := []) (rv := none) (M2 := (I16, L, ab_RR, n, nc, ns)) d_M_net_151 ce_M_copyTo ⟨v_1625, Or.inl v_1624⟩ (Nat.le_of_ble_eq_true rfl) hC (Nat.le_refl _) (Nat.le_refl _) hc hs (fun j h9 => by cases h9) (fun _ _ => rfl) ?_
          show ab_E w (d + 1) mt_M_net 154 [.ref mx, .int v1, .int v2] [] (I16, L, ab_RR, n, nc, ns) res
          refine ab_aload_n (i := 0) d_M_net_154 rfl rfl ?_
          refine ab_iconst (v := 0) d_M_net_155 rfl ?_
          refine ab_putI (ci := 11) (k := 41) d_M_net_156 v_1409 rfl (by decide) (by decide) rfl (Or.inl rfl) rfl rfl ?_
          refine ab_aload_n (i := 0) d_M_net_159 rfl rfl ?_
          refine ab_iconst (v := 0) d_M_net_160 rfl ?_
          refine ab_putI (ci := 11) (k := 43) d_M_net_161 v_1411 rfl (by decide) (by decide) rfl (Or.inl rfl) rfl rfl ?_
          refine ab_aload_n (i := 0) d_M_net_164 rfl rfl ?_
          refine ab_iconst (v := 0) d_M_net_165 rfl ?_
          refine ab_putI (ci := 11) (k := 52) d_M_net_166 v_1420 rfl (by decide) (by decide) rfl (Or.inl rfl) rfl rfl ?_
          refine ab_iconst (v := 0) d_M_net_169 rfl ?_
          exact ab_iret (ty := .int) d_M_net_170 rfl rfl h
      · have h := h.2 c10
        refine ab_aload_n (i := 0) d_M_net_112 rfl rfl ?_
        refine ab_aload_n (i := 0) d_M_net_113 rfl rfl ?_
        refine ab_getI (ci := 11) (k := 16) d_M_net_114 v_1384 rfl (by decide) (by decide) rfl ?_
        refine ab_putI (ci := 11) (k := 17) d_M_net_117 v_1385 rfl (by decide) (by decide) rfl (Or.inl rfl) rfl rfl ?_
        refine ab_aload_n (i := 0) d_M_net_120 rfl rfl ?_
        refine ab_getR (ci := 11) (k := 6) (j := mx_status) d_M_net_121 v_1374 rfl (by decide) (by decide) rfl r_mx_6 ?_
        refine ab_iconst (v := 0) d_M_net_124 rfl ?_
        refine ab_dup2 d_M_net_125 ?_
        refine ab_iald d_M_net_126 rfl rfl (by unfold vp_in; decide) ?_
        refine ab_iconst (v := 1) d_M_net_127 rfl ?_
        refine ab_iadd d_M_net_128 ?_
        refine ab_iast d_M_net_129 rfl rfl (by unfold vp_in; decide) ?_
        refine ab_aload_n (i := 0) d_M_net_130 rfl rfl ?_
        refine ab_getI (ci := 11) (k := 15) d_M_net_131 v_1383 rfl (by decide) (by decide) rfl ?_
        exact ab_iret (ty := .int) d_M_net_134 rfl rfl h
    · have h := h.2 c9
      refine ab_aload_n (i := 0) d_M_net_98 rfl rfl ?_
      obtain ⟨I18, hC, h⟩ := h
      refine ab_callV (me2 := mt_M_readClause) (b := mx) (as := []) (st := []) (rv := none) (M2 := (I18, L, ab_RR, n, nc, ns)) d_M_net_99 ce_M_readClause v_1582 v_1584 v_69 (by decide) rfl (Nat.le_of_ble_eq_true rfl) hC (Nat.le_refl _) (Nat.le_refl _) hc hs (fun j h9 => by cases h9) (fun _ _ => rfl) ?_
      show ab_E w (d + 1) mt_M_net 102 [.ref mx, .int v1, .int v2] [] (I18, L, ab_RR, n, nc, ns) res
      refine ab_goto (tgt := 84) d_M_net_102 (by decide) ?_
      exact h
theorem cx_M_fault_0 {w : ab_Wd} {d n nc ns : Nat} {I : Nat → Nat → Int32} {L : Nat → Nat → Int64}  (hT : w.1.stackTraces = false)  : ab_C w d mt_M_fault [.ref mx] (I, L, ab_RR, n, nc, ns) (.inl (some (.int (I mx 17))), ((ab_up I mx 1 0), L, ab_RR, n, nc, ns)) := by
  refine ab_C_of (by decide) rfl (Nat.le_of_ble_eq_true rfl) hT ?_
  have hc := Nat.le_refl nc
  have hs := Nat.le_refl ns
  refine ab_aload_n (i := 0) d_M_fault_0 rfl rfl ?_
  refine ab_iconst (v := 0) d_M_fault_1 rfl ?_
  refine ab_putI (ci := 11) (k := 1) d_M_fault_2 v_1369 rfl (by decide) (by decide) rfl (Or.inl rfl) rfl rfl ?_
  refine ab_aload_n (i := 0) d_M_fault_5 rfl rfl ?_
  refine ab_getI (ci := 11) (k := 17) d_M_fault_6 v_1385 rfl (by decide) (by decide) rfl ?_
  exact ab_iret (ty := .int) d_M_fault_9 rfl rfl rfl
theorem cx_M_many_0 {w : ab_Wd} {d n nc ns : Nat} {I : Nat → Nat → Int32} {L : Nat → Nat → Int64}  (hT : w.1.stackTraces = false) (e1 : (vp_in 0 399)) : ab_C w d mt_M_many [.ref mx] (I, L, ab_RR, n, nc, ns) (.inl (some (.int (I mx_now 0))), (I, L, ab_RR, n, nc, ns)) := by
  refine ab_C_of (by decide) rfl (Nat.le_of_ble_eq_true rfl) hT ?_
  have hc := Nat.le_refl nc
  have hs := Nat.le_refl ns
  refine ab_aload_n (i := 0) d_M_many_0 rfl rfl ?_
  refine ab_getR (ci := 11) (k := 4) (j := mx_now) d_M_many_1 v_1372 rfl (by decide) (by decide) rfl r_mx_4 ?_
  refine ab_iconst (v := 0) d_M_many_4 rfl ?_
  refine ab_iald d_M_many_5 rfl rfl e1 ?_
  exact ab_iret (ty := .int) d_M_many_6 rfl rfl rfl
theorem cx_M_priceOf_0 {w : ab_Wd} {d n nc ns : Nat} {I : Nat → Nat → Int32} {L : Nat → Nat → Int64} (v1 : Int32) (hT : w.1.stackTraces = false) (e1 : (vp_in (51 + v1) 399)) : ab_C w d mt_M_priceOf [.ref mx, .int v1] (I, L, ab_RR, n, nc, ns) (.inl (some (.int (I mx_now (51 + v1).toNatClampNeg))), (I, L, ab_RR, n, nc, ns)) := by
  refine ab_C_of (by decide) rfl (Nat.le_of_ble_eq_true rfl) hT ?_
  have hc := Nat.le_refl nc
  have hs := Nat.le_refl ns
  refine ab_aload_n (i := 0) d_M_priceOf_0 rfl rfl ?_
  refine ab_getR (ci := 11) (k := 4) (j := mx_now) d_M_priceOf_1 v_1372 rfl (by decide) (by decide) rfl r_mx_4 ?_
  refine ab_bipush (v := 51) d_M_priceOf_4 rfl ?_
  refine ab_iload_n (i := 1) d_M_priceOf_6 rfl rfl ?_
  refine ab_iadd d_M_priceOf_7 ?_
  refine ab_iald d_M_priceOf_8 rfl rfl e1 ?_
  exact ab_iret (ty := .int) d_M_priceOf_9 rfl rfl rfl
theorem cx_M_isSound_0 {w : ab_Wd} {d n nc ns : Nat} {I : Nat → Nat → Int32} {L : Nat → Nat → Int64} (v1 : Int32) (hT : w.1.stackTraces = false) (e1 : (vp_in 1 399)) (e2 : ¬ (((I mx_now 1) >>> (v1 &&& 31)) &&& 1) = 1) : ab_C w d mt_M_isSound [.ref mx, .int v1] (I, L, ab_RR, n, nc, ns) (.inl (some (.int 0)), (I, L, ab_RR, n, nc, ns)) := by
  refine ab_C_of (by decide) rfl (Nat.le_of_ble_eq_true rfl) hT ?_
  have hc := Nat.le_refl nc
  have hs := Nat.le_refl ns
  refine ab_aload_n (i := 0) d_M_isSound_0 rfl rfl ?_
  refine ab_getR (ci := 11) (k := 4) (j := mx_now) d_M_isSound_1 v_1372 rfl (by decide) (by decide) rfl r_mx_4 ?_
  refine ab_iconst (v := 1) d_M_isSound_4 rfl ?_
  refine ab_iald d_M_isSound_5 rfl rfl e1 ?_
  refine ab_iload_n (i := 1) d_M_isSound_6 rfl rfl ?_
  refine ab_ishr d_M_isSound_7 ?_
  refine ab_iconst (v := 1) d_M_isSound_8 rfl ?_
  refine ab_iand d_M_isSound_9 ?_
  refine ab_iconst (v := 1) d_M_isSound_10 rfl ?_
  refine ab_icmp_ne (tgt := 18) d_M_isSound_11 (by decide) (fun _ => ?_) (fun c9 => absurd c9 e2)
  refine ab_iconst (v := 0) d_M_isSound_18 rfl ?_
  exact ab_iret (ty := .boolean) d_M_isSound_19 rfl rfl rfl
theorem cx_M_isSound_1 {w : ab_Wd} {d n nc ns : Nat} {I : Nat → Nat → Int32} {L : Nat → Nat → Int64} (v1 : Int32) (hT : w.1.stackTraces = false) (e1 : (vp_in 1 399)) (e2 : (((I mx_now 1) >>> (v1 &&& 31)) &&& 1) = 1) : ab_C w d mt_M_isSound [.ref mx, .int v1] (I, L, ab_RR, n, nc, ns) (.inl (some (.int 1)), (I, L, ab_RR, n, nc, ns)) := by
  refine ab_C_of (by decide) rfl (Nat.le_of_ble_eq_true rfl) hT ?_
  have hc := Nat.le_refl nc
  have hs := Nat.le_refl ns
  refine ab_aload_n (i := 0) d_M_isSound_0 rfl rfl ?_
  refine ab_getR (ci := 11) (k := 4) (j := mx_now) d_M_isSound_1 v_1372 rfl (by decide) (by decide) rfl r_mx_4 ?_
  refine ab_iconst (v := 1) d_M_isSound_4 rfl ?_
  refine ab_iald d_M_isSound_5 rfl rfl e1 ?_
  refine ab_iload_n (i := 1) d_M_isSound_6 rfl rfl ?_
  refine ab_ishr d_M_isSound_7 ?_
  refine ab_iconst (v := 1) d_M_isSound_8 rfl ?_
  refine ab_iand d_M_isSound_9 ?_
  refine ab_iconst (v := 1) d_M_isSound_10 rfl ?_
  refine ab_icmp_ne (tgt := 18) d_M_isSound_11 (by decide) (fun c9 => absurd e2 c9) (fun _ => ?_)
  refine ab_iconst (v := 1) d_M_isSound_14 rfl ?_
  refine ab_goto (tgt := 19) d_M_isSound_15 (by decide) ?_
  exact ab_iret (ty := .boolean) d_M_isSound_19 rfl rfl rfl
theorem cx_M_isCheaper_0 {w : ab_Wd} {d n nc ns : Nat} {I : Nat → Nat → Int32} {L : Nat → Nat → Int64} (v1 : Int32) (v2 : Int32) (hT : w.1.stackTraces = false) (e1 : (vp_in (51 + v1) 399)) (e2 : (vp_in (51 + v2) 399)) (e3 : (I mx_now (51 + v1).toNatClampNeg) < (I mx_now (51 + v2).toNatClampNeg)) : ab_C w (d + 1) mt_M_isCheaper [.ref mx, .int v1, .int v2] (I, L, ab_RR, n, nc, ns) (.inl (some (.int 1)), (I, L, ab_RR, n, nc, ns)) := by
  refine ab_C_of (by decide) rfl (Nat.le_of_ble_eq_true rfl) hT ?_
  have hc := Nat.le_refl nc
  have hs := Nat.le_refl ns
  refine ab_aload_n (i := 0) d_M_isCheaper_0 rfl rfl ?_
  refine ab_iload_n (i := 1) d_M_isCheaper_1 rfl rfl ?_
  refine ab_callV (me2 := mt_M_priceOf) (b := mx) (as := [.int v1]) (st := []) (rv := (some (.int (I mx_now (51 + v1).toNatClampNeg)))) (M2 := (I, L, ab_RR, n, nc, ns)) d_M_isCheaper_2 ce_M_priceOf v_1654 v_1656 v_83 (by decide) rfl (Nat.le_of_ble_eq_true rfl) (cx_M_priceOf_0 v1 hT e1) (Nat.le_refl _) (Nat.le_refl _) hc hs (fun j h9 => by cases h9) (fun _ _ => rfl) ?_
  show ab_E w (d + 1) mt_M_isCheaper 5 [.ref mx, .int v1, .int v2] [.int (I mx_now (51 + v1).toNatClampNeg)] (I, L, ab_RR, n, nc, ns) _
  refine ab_aload_n (i := 0) d_M_isCheaper_5 rfl rfl ?_
  refine ab_iload_n (i := 2) d_M_isCheaper_6 rfl rfl ?_
  refine ab_callV (me2 := mt_M_priceOf) (b := mx) (as := [.int v2]) (st := [.int (I mx_now (51 + v1).toNatClampNeg)]) (rv := (some (.int (I mx_now (51 + v2).toNatClampNeg)))) (M2 := (I, L, ab_RR, n, nc, ns)) d_M_isCheaper_7 ce_M_priceOf v_1654 v_1656 v_83 (by decide) rfl (Nat.le_of_ble_eq_true rfl) (cx_M_priceOf_0 v2 hT e2) (Nat.le_refl _) (Nat.le_refl _) hc hs (fun j h9 => by cases h9) (fun _ _ => rfl) ?_
  show ab_E w (d + 1) mt_M_isCheaper 10 [.ref mx, .int v1, .int v2] [.int (I mx_now (51 + v2).toNatClampNeg), .int (I mx_now (51 + v1).toNatClampNeg)] (I, L, ab_RR, n, nc, ns) _
  refine ab_icmp_lt (tgt := 31) d_M_isCheaper_10 (by decide) (fun _ => ?_) (fun c9 => absurd e3 c9)
  refine ab_iconst (v := 1) d_M_isCheaper_31 rfl ?_
  refine ab_goto (tgt := 36) d_M_isCheaper_32 (by decide) ?_
  exact ab_iret (ty := .boolean) d_M_isCheaper_36 rfl rfl rfl
theorem cx_M_isCheaper_1 {w : ab_Wd} {d n nc ns : Nat} {I : Nat → Nat → Int32} {L : Nat → Nat → Int64} (v1 : Int32) (v2 : Int32) (hT : w.1.stackTraces = false) (e1 : (vp_in (51 + v1) 399)) (e2 : (vp_in (51 + v2) 399)) (e3 : ¬ (I mx_now (51 + v1).toNatClampNeg) < (I mx_now (51 + v2).toNatClampNeg)) (e4 : (vp_in (51 + v1) 399)) (e5 : (vp_in (51 + v2) 399)) (e6 : ¬ (I mx_now (51 + v1).toNatClampNeg) = (I mx_now (51 + v2).toNatClampNeg)) : ab_C w (d + 1) mt_M_isCheaper [.ref mx, .int v1, .int v2] (I, L, ab_RR, n, nc, ns) (.inl (some (.int 0)), (I, L, ab_RR, n, nc, ns)) := by
  refine ab_C_of (by decide) rfl (Nat.le_of_ble_eq_true rfl) hT ?_
  have hc := Nat.le_refl nc
  have hs := Nat.le_refl ns
  refine ab_aload_n (i := 0) d_M_isCheaper_0 rfl rfl ?_
  refine ab_iload_n (i := 1) d_M_isCheaper_1 rfl rfl ?_
  refine ab_callV (me2 := mt_M_priceOf) (b := mx) (as := [.int v1]) (st := []) (rv := (some (.int (I mx_now (51 + v1).toNatClampNeg)))) (M2 := (I, L, ab_RR, n, nc, ns)) d_M_isCheaper_2 ce_M_priceOf v_1654 v_1656 v_83 (by decide) rfl (Nat.le_of_ble_eq_true rfl) (cx_M_priceOf_0 v1 hT e1) (Nat.le_refl _) (Nat.le_refl _) hc hs (fun j h9 => by cases h9) (fun _ _ => rfl) ?_
  show ab_E w (d + 1) mt_M_isCheaper 5 [.ref mx, .int v1, .int v2] [.int (I mx_now (51 + v1).toNatClampNeg)] (I, L, ab_RR, n, nc, ns) _
  refine ab_aload_n (i := 0) d_M_isCheaper_5 rfl rfl ?_
  refine ab_iload_n (i := 2) d_M_isCheaper_6 rfl rfl ?_
  refine ab_callV (me2 := mt_M_priceOf) (b := mx) (as := [.int v2]) (st := [.int (I mx_now (51 + v1).toNatClampNeg)]) (rv := (some (.int (I mx_now (51 + v2).toNatClampNeg)))) (M2 := (I, L, ab_RR, n, nc, ns)) d_M_isCheaper_7 ce_M_priceOf v_1654 v_1656 v_83 (by decide) rfl (Nat.le_of_ble_eq_true rfl) (cx_M_priceOf_0 v2 hT e2) (Nat.le_refl _) (Nat.le_refl _) hc hs (fun j h9 => by cases h9) (fun _ _ => rfl) ?_
  show ab_E w (d + 1) mt_M_isCheaper 10 [.ref mx, .int v1, .int v2] [.int (I mx_now (51 + v2).toNatClampNeg), .int (I mx_now (51 + v1).toNatClampNeg)] (I, L, ab_RR, n, nc, ns) _
  refine ab_icmp_lt (tgt := 31) d_M_isCheaper_10 (by decide) (fun c9 => absurd c9 e3) (fun _ => ?_)
  refine ab_aload_n (i := 0) d_M_isCheaper_13 rfl rfl ?_
  refine ab_iload_n (i := 1) d_M_isCheaper_14 rfl rfl ?_
  refine ab_callV (me2 := mt_M_priceOf) (b := mx) (as := [.int v1]) (st := []) (rv := (some (.int (I mx_now (51 + v1).toNatClampNeg)))) (M2 := (I, L, ab_RR, n, nc, ns)) d_M_isCheaper_15 ce_M_priceOf v_1654 v_1656 v_83 (by decide) rfl (Nat.le_of_ble_eq_true rfl) (cx_M_priceOf_0 v1 hT e4) (Nat.le_refl _) (Nat.le_refl _) hc hs (fun j h9 => by cases h9) (fun _ _ => rfl) ?_
  show ab_E w (d + 1) mt_M_isCheaper 18 [.ref mx, .int v1, .int v2] [.int (I mx_now (51 + v1).toNatClampNeg)] (I, L, ab_RR, n, nc, ns) _
  refine ab_aload_n (i := 0) d_M_isCheaper_18 rfl rfl ?_
  refine ab_iload_n (i := 2) d_M_isCheaper_19 rfl rfl ?_
  refine ab_callV (me2 := mt_M_priceOf) (b := mx) (as := [.int v2]) (st := [.int (I mx_now (51 + v1).toNatClampNeg)]) (rv := (some (.int (I mx_now (51 + v2).toNatClampNeg)))) (M2 := (I, L, ab_RR, n, nc, ns)) d_M_isCheaper_20 ce_M_priceOf v_1654 v_1656 v_83 (by decide) rfl (Nat.le_of_ble_eq_true rfl) (cx_M_priceOf_0 v2 hT e5) (Nat.le_refl _) (Nat.le_refl _) hc hs (fun j h9 => by cases h9) (fun _ _ => rfl) ?_
  show ab_E w (d + 1) mt_M_isCheaper 23 [.ref mx, .int v1, .int v2] [.int (I mx_now (51 + v2).toNatClampNeg), .int (I mx_now (51 + v1).toNatClampNeg)] (I, L, ab_RR, n, nc, ns) _
  refine ab_icmp_ne (tgt := 35) d_M_isCheaper_23 (by decide) (fun _ => ?_) (fun c9 => absurd c9 e6)
  refine ab_iconst (v := 0) d_M_isCheaper_35 rfl ?_
  exact ab_iret (ty := .boolean) d_M_isCheaper_36 rfl rfl rfl
theorem cx_M_isCheaper_2 {w : ab_Wd} {d n nc ns : Nat} {I : Nat → Nat → Int32} {L : Nat → Nat → Int64} (v1 : Int32) (v2 : Int32) (hT : w.1.stackTraces = false) (e1 : (vp_in (51 + v1) 399)) (e2 : (vp_in (51 + v2) 399)) (e3 : ¬ (I mx_now (51 + v1).toNatClampNeg) < (I mx_now (51 + v2).toNatClampNeg)) (e4 : (vp_in (51 + v1) 399)) (e5 : (vp_in (51 + v2) 399)) (e6 : (I mx_now (51 + v1).toNatClampNeg) = (I mx_now (51 + v2).toNatClampNeg)) (e7 : v2 ≤ v1) : ab_C w (d + 1) mt_M_isCheaper [.ref mx, .int v1, .int v2] (I, L, ab_RR, n, nc, ns) (.inl (some (.int 0)), (I, L, ab_RR, n, nc, ns)) := by
  refine ab_C_of (by decide) rfl (Nat.le_of_ble_eq_true rfl) hT ?_
  have hc := Nat.le_refl nc
  have hs := Nat.le_refl ns
  refine ab_aload_n (i := 0) d_M_isCheaper_0 rfl rfl ?_
  refine ab_iload_n (i := 1) d_M_isCheaper_1 rfl rfl ?_
  refine ab_callV (me2 := mt_M_priceOf) (b := mx) (as := [.int v1]) (st := []) (rv := (some (.int (I mx_now (51 + v1).toNatClampNeg)))) (M2 := (I, L, ab_RR, n, nc, ns)) d_M_isCheaper_2 ce_M_priceOf v_1654 v_1656 v_83 (by decide) rfl (Nat.le_of_ble_eq_true rfl) (cx_M_priceOf_0 v1 hT e1) (Nat.le_refl _) (Nat.le_refl _) hc hs (fun j h9 => by cases h9) (fun _ _ => rfl) ?_
  show ab_E w (d + 1) mt_M_isCheaper 5 [.ref mx, .int v1, .int v2] [.int (I mx_now (51 + v1).toNatClampNeg)] (I, L, ab_RR, n, nc, ns) _
  refine ab_aload_n (i := 0) d_M_isCheaper_5 rfl rfl ?_
  refine ab_iload_n (i := 2) d_M_isCheaper_6 rfl rfl ?_
  refine ab_callV (me2 := mt_M_priceOf) (b := mx) (as := [.int v2]) (st := [.int (I mx_now (51 + v1).toNatClampNeg)]) (rv := (some (.int (I mx_now (51 + v2).toNatClampNeg)))) (M2 := (I, L, ab_RR, n, nc, ns)) d_M_isCheaper_7 ce_M_priceOf v_1654 v_1656 v_83 (by decide) rfl (Nat.le_of_ble_eq_true rfl) (cx_M_priceOf_0 v2 hT e2) (Nat.le_refl _) (Nat.le_refl _) hc hs (fun j h9 => by cases h9) (fun _ _ => rfl) ?_
  show ab_E w (d + 1) mt_M_isCheaper 10 [.ref mx, .int v1, .int v2] [.int (I mx_now (51 + v2).toNatClampNeg), .int (I mx_now (51 + v1).toNatClampNeg)] (I, L, ab_RR, n, nc, ns) _
  refine ab_icmp_lt (tgt := 31) d_M_isCheaper_10 (by decide) (fun c9 => absurd c9 e3) (fun _ => ?_)
  refine ab_aload_n (i := 0) d_M_isCheaper_13 rfl rfl ?_
  refine ab_iload_n (i := 1) d_M_isCheaper_14 rfl rfl ?_
  refine ab_callV (me2 := mt_M_priceOf) (b := mx) (as := [.int v1]) (st := []) (rv := (some (.int (I mx_now (51 + v1).toNatClampNeg)))) (M2 := (I, L, ab_RR, n, nc, ns)) d_M_isCheaper_15 ce_M_priceOf v_1654 v_1656 v_83 (by decide) rfl (Nat.le_of_ble_eq_true rfl) (cx_M_priceOf_0 v1 hT e4) (Nat.le_refl _) (Nat.le_refl _) hc hs (fun j h9 => by cases h9) (fun _ _ => rfl) ?_
  show ab_E w (d + 1) mt_M_isCheaper 18 [.ref mx, .int v1, .int v2] [.int (I mx_now (51 + v1).toNatClampNeg)] (I, L, ab_RR, n, nc, ns) _
  refine ab_aload_n (i := 0) d_M_isCheaper_18 rfl rfl ?_
  refine ab_iload_n (i := 2) d_M_isCheaper_19 rfl rfl ?_
  refine ab_callV (me2 := mt_M_priceOf) (b := mx) (as := [.int v2]) (st := [.int (I mx_now (51 + v1).toNatClampNeg)]) (rv := (some (.int (I mx_now (51 + v2).toNatClampNeg)))) (M2 := (I, L, ab_RR, n, nc, ns)) d_M_isCheaper_20 ce_M_priceOf v_1654 v_1656 v_83 (by decide) rfl (Nat.le_of_ble_eq_true rfl) (cx_M_priceOf_0 v2 hT e5) (Nat.le_refl _) (Nat.le_refl _) hc hs (fun j h9 => by cases h9) (fun _ _ => rfl) ?_
  show ab_E w (d + 1) mt_M_isCheaper 23 [.ref mx, .int v1, .int v2] [.int (I mx_now (51 + v2).toNatClampNeg), .int (I mx_now (51 + v1).toNatClampNeg)] (I, L, ab_RR, n, nc, ns) _
  refine ab_icmp_ne (tgt := 35) d_M_isCheaper_23 (by decide) (fun c9 => absurd e6 c9) (fun _ => ?_)
  refine ab_iload_n (i := 1) d_M_isCheaper_26 rfl rfl ?_
  refine ab_iload_n (i := 2) d_M_isCheaper_27 rfl rfl ?_
  refine ab_icmp_ge (tgt := 35) d_M_isCheaper_28 (by decide) (fun _ => ?_) (fun c9 => absurd e7 c9)
  refine ab_iconst (v := 0) d_M_isCheaper_35 rfl ?_
  exact ab_iret (ty := .boolean) d_M_isCheaper_36 rfl rfl rfl
theorem cx_M_isCheaper_3 {w : ab_Wd} {d n nc ns : Nat} {I : Nat → Nat → Int32} {L : Nat → Nat → Int64} (v1 : Int32) (v2 : Int32) (hT : w.1.stackTraces = false) (e1 : (vp_in (51 + v1) 399)) (e2 : (vp_in (51 + v2) 399)) (e3 : ¬ (I mx_now (51 + v1).toNatClampNeg) < (I mx_now (51 + v2).toNatClampNeg)) (e4 : (vp_in (51 + v1) 399)) (e5 : (vp_in (51 + v2) 399)) (e6 : (I mx_now (51 + v1).toNatClampNeg) = (I mx_now (51 + v2).toNatClampNeg)) (e7 : ¬ v2 ≤ v1) : ab_C w (d + 1) mt_M_isCheaper [.ref mx, .int v1, .int v2] (I, L, ab_RR, n, nc, ns) (.inl (some (.int 1)), (I, L, ab_RR, n, nc, ns)) := by
  refine ab_C_of (by decide) rfl (Nat.le_of_ble_eq_true rfl) hT ?_
  have hc := Nat.le_refl nc
  have hs := Nat.le_refl ns
  refine ab_aload_n (i := 0) d_M_isCheaper_0 rfl rfl ?_
  refine ab_iload_n (i := 1) d_M_isCheaper_1 rfl rfl ?_
  refine ab_callV (me2 := mt_M_priceOf) (b := mx) (as := [.int v1]) (st := []) (rv := (some (.int (I mx_now (51 + v1).toNatClampNeg)))) (M2 := (I, L, ab_RR, n, nc, ns)) d_M_isCheaper_2 ce_M_priceOf v_1654 v_1656 v_83 (by decide) rfl (Nat.le_of_ble_eq_true rfl) (cx_M_priceOf_0 v1 hT e1) (Nat.le_refl _) (Nat.le_refl _) hc hs (fun j h9 => by cases h9) (fun _ _ => rfl) ?_
  show ab_E w (d + 1) mt_M_isCheaper 5 [.ref mx, .int v1, .int v2] [.int (I mx_now (51 + v1).toNatClampNeg)] (I, L, ab_RR, n, nc, ns) _
  refine ab_aload_n (i := 0) d_M_isCheaper_5 rfl rfl ?_
  refine ab_iload_n (i := 2) d_M_isCheaper_6 rfl rfl ?_
  refine ab_callV (me2 := mt_M_priceOf) (b := mx) (as := [.int v2]) (st := [.int (I mx_now (51 + v1).toNatClampNeg)]) (rv := (some (.int (I mx_now (51 + v2).toNatClampNeg)))) (M2 := (I, L, ab_RR, n, nc, ns)) d_M_isCheaper_7 ce_M_priceOf v_1654 v_1656 v_83 (by decide) rfl (Nat.le_of_ble_eq_true rfl) (cx_M_priceOf_0 v2 hT e2) (Nat.le_refl _) (Nat.le_refl _) hc hs (fun j h9 => by cases h9) (fun _ _ => rfl) ?_
  show ab_E w (d + 1) mt_M_isCheaper 10 [.ref mx, .int v1, .int v2] [.int (I mx_now (51 + v2).toNatClampNeg), .int (I mx_now (51 + v1).toNatClampNeg)] (I, L, ab_RR, n, nc, ns) _
  refine ab_icmp_lt (tgt := 31) d_M_isCheaper_10 (by decide) (fun c9 => absurd c9 e3) (fun _ => ?_)
  refine ab_aload_n (i := 0) d_M_isCheaper_13 rfl rfl ?_
  refine ab_iload_n (i := 1) d_M_isCheaper_14 rfl rfl ?_
  refine ab_callV (me2 := mt_M_priceOf) (b := mx) (as := [.int v1]) (st := []) (rv := (some (.int (I mx_now (51 + v1).toNatClampNeg)))) (M2 := (I, L, ab_RR, n, nc, ns)) d_M_isCheaper_15 ce_M_priceOf v_1654 v_1656 v_83 (by decide) rfl (Nat.le_of_ble_eq_true rfl) (cx_M_priceOf_0 v1 hT e4) (Nat.le_refl _) (Nat.le_refl _) hc hs (fun j h9 => by cases h9) (fun _ _ => rfl) ?_
  show ab_E w (d + 1) mt_M_isCheaper 18 [.ref mx, .int v1, .int v2] [.int (I mx_now (51 + v1).toNatClampNeg)] (I, L, ab_RR, n, nc, ns) _
  refine ab_aload_n (i := 0) d_M_isCheaper_18 rfl rfl ?_
  refine ab_iload_n (i := 2) d_M_isCheaper_19 rfl rfl ?_
  refine ab_callV (me2 := mt_M_priceOf) (b := mx) (as := [.int v2]) (st := [.int (I mx_now (51 + v1).toNatClampNeg)]) (rv := (some (.int (I mx_now (51 + v2).toNatClampNeg)))) (M2 := (I, L, ab_RR, n, nc, ns)) d_M_isCheaper_20 ce_M_priceOf v_1654 v_1656 v_83 (by decide) rfl (Nat.le_of_ble_eq_true rfl) (cx_M_priceOf_0 v2 hT e5) (Nat.le_refl _) (Nat.le_refl _) hc hs (fun j h9 => by cases h9) (fun _ _ => rfl) ?_
  show ab_E w (d + 1) mt_M_isCheaper 23 [.ref mx, .int v1, .int v2] [.int (I mx_now (51 + v2).toNatClampNeg), .int (I mx_now (51 + v1).toNatClampNeg)] (I, L, ab_RR, n, nc, ns) _
  refine ab_icmp_ne (tgt := 35) d_M_isCheaper_23 (by decide) (fun c9 => absurd e6 c9) (fun _ => ?_)
  refine ab_iload_n (i := 1) d_M_isCheaper_26 rfl rfl ?_
  refine ab_iload_n (i := 2) d_M_isCheaper_27 rfl rfl ?_
  refine ab_icmp_ge (tgt := 35) d_M_isCheaper_28 (by decide) (fun c9 => absurd c9 e7) (fun _ => ?_)
  refine ab_iconst (v := 1) d_M_isCheaper_31 rfl ?_
  refine ab_goto (tgt := 36) d_M_isCheaper_32 (by decide) ?_
  exact ab_iret (ty := .boolean) d_M_isCheaper_36 rfl rfl rfl
theorem r_M_joins_0 {w : ab_Wd} {d n nc ns : Nat} {I : Nat → Nat → Int32} {L : Nat → Nat → Int64} {res : ab_Re} (hT : w.1.stackTraces = false) (v1 : Int32) (v2 : Int32) (hc : nc ≤ res.2.2.2.2.2.1) (hs : ns ≤ res.2.2.2.2.2.2)
    (h : (vp_in v1 10) ∧ (vp_in v2 10) ∧ ab_E w (d + 1) mt_M_joins 36 [.ref mx, .int v1, .int v2, .int (ab_min32 (I mx_piece v1.toNatClampNeg) (I mx_piece v2.toNatClampNeg)), .int (ab_max32 (I mx_piece v1.toNatClampNeg) (I mx_piece v2.toNatClampNeg)), .int 0] [] (I, L, ab_RR, n, nc, ns) res) : ab_E w (d + 1) mt_M_joins 0 [.ref mx, .int v1, .int v2, .null, .null, .null] [] (I, L, ab_RR, n, nc, ns) res := by
  refine ab_aload_n (i := 0) d_M_joins_0 rfl rfl ?_
  refine ab_getR (ci := 11) (k := 19) (j := mx_piece) d_M_joins_1 v_1387 rfl (by decide) (by decide) rfl r_mx_19 ?_
  refine ab_iload_n (i := 1) d_M_joins_4 rfl rfl ?_
  have g1 := h.1; have h := h.2
  refine ab_iald d_M_joins_5 rfl rfl g1 ?_
  refine ab_aload_n (i := 0) d_M_joins_6 rfl rfl ?_
  refine ab_getR (ci := 11) (k := 19) (j := mx_piece) d_M_joins_7 v_1387 rfl (by decide) (by decide) rfl r_mx_19 ?_
  refine ab_iload_n (i := 2) d_M_joins_10 rfl rfl ?_
  have g2 := h.1; have h := h.2
  refine ab_iald d_M_joins_11 rfl rfl g2 ?_
  refine ab_min d_M_joins_12 v_1581 v_448 v_150 v_449 (Nat.succ_le_succ (Nat.zero_le _)) (Nat.le_of_ble_eq_true rfl) hc hs ?_
  refine ab_istore_n (i := 3) d_M_joins_15 rfl (by decide) (Or.inr rfl) ?_
  refine ab_aload_n (i := 0) d_M_joins_16 rfl rfl ?_
  refine ab_getR (ci := 11) (k := 19) (j := mx_piece) d_M_joins_17 v_1387 rfl (by decide) (by decide) rfl r_mx_19 ?_
  refine ab_iload_n (i := 1) d_M_joins_20 rfl rfl ?_
  refine ab_iald d_M_joins_21 rfl rfl g1 ?_
  refine ab_aload_n (i := 0) d_M_joins_22 rfl rfl ?_
  refine ab_getR (ci := 11) (k := 19) (j := mx_piece) d_M_joins_23 v_1387 rfl (by decide) (by decide) rfl r_mx_19 ?_
  refine ab_iload_n (i := 2) d_M_joins_26 rfl rfl ?_
  refine ab_iald d_M_joins_27 rfl rfl g2 ?_
  refine ab_max d_M_joins_28 v_1662 v_451 v_150 v_452 (Nat.succ_le_succ (Nat.zero_le _)) (Nat.le_of_ble_eq_true rfl) hc hs ?_
  refine ab_istore (i := 4) d_M_joins_31 (by decide) (Or.inr rfl) ?_
  refine ab_iconst (v := 0) d_M_joins_33 rfl ?_
  refine ab_istore (i := 5) d_M_joins_34 (by decide) (Or.inr rfl) ?_
  exact h
theorem r_M_joins_36 {w : ab_Wd} {d n nc ns : Nat} {I : Nat → Nat → Int32} {L : Nat → Nat → Int64} {res : ab_Re} (hT : w.1.stackTraces = false) (v1 : Int32) (v2 : Int32) (v3 : Int32) (v4 : Int32) (v5 : Int32) (hc : nc ≤ res.2.2.2.2.2.1) (hs : ns ≤ res.2.2.2.2.2.2)
    (h : (((I mx 2) ≤ v5 → (res = (.inl none, (I, L, ab_RR, n, nc, ns)))) ∧ (¬ (I mx 2) ≤ v5 → ((vp_in v5 10) ∧ ((¬ (I mx_piece v5.toNatClampNeg) = v4 → (ab_E w (d + 1) mt_M_joins 36 [.ref mx, .int v1, .int v2, .int v3, .int v4, .int (v5 + 1)] [] (I, L, ab_RR, n, nc, ns) res)) ∧ ((I mx_piece v5.toNatClampNeg) = v4 → (ab_E w (d + 1) mt_M_joins 36 [.ref mx, .int v1, .int v2, .int v3, .int v4, .int (v5 + 1)] [] ((ab_up I mx_piece v5.toNatClampNeg v3), L, ab_RR, n, nc, ns) res))))))) : ab_E w (d + 1) mt_M_joins 36 [.ref mx, .int v1, .int v2, .int v3, .int v4, .int v5] [] (I, L, ab_RR, n, nc, ns) res := by
  refine ab_iload (i := 5) d_M_joins_36 rfl ?_
  refine ab_aload_n (i := 0) d_M_joins_38 rfl rfl ?_
  refine ab_getI (ci := 11) (k := 2) d_M_joins_39 v_1370 rfl (by decide) (by decide) rfl ?_
  refine ab_icmp_ge (tgt := 71) d_M_joins_42 (by decide) (fun c1 => ?_) (fun c1 => ?_)
  · have h := h.1 c1
    exact ab_vret d_M_joins_71 rfl h
  · have h := h.2 c1
    refine ab_aload_n (i := 0) d_M_joins_45 rfl rfl ?_
    refine ab_getR (ci := 11) (k := 19) (j := mx_piece) d_M_joins_46 v_1387 rfl (by decide) (by decide) rfl r_mx_19 ?_
    refine ab_iload (i := 5) d_M_joins_49 rfl ?_
    have g2 := h.1; have h := h.2
    refine ab_iald d_M_joins_51 rfl rfl g2 ?_
    refine ab_iload (i := 4) d_M_joins_52 rfl ?_
    refine ab_icmp_ne (tgt := 65) d_M_joins_54 (by decide) (fun c3 => ?_) (fun c3 => ?_)
    · have h := h.1 c3
      refine ab_iinc (i := 5) (v := (v5 + 1)) d_M_joins_65 rfl rfl (by decide) (Or.inr rfl) ?_
      refine ab_goto (tgt := 36) d_M_joins_68 (by decide) ?_
      exact h
    · have h := h.2 c3
      refine ab_aload_n (i := 0) d_M_joins_57 rfl rfl ?_
      refine ab_getR (ci := 11) (k := 19) (j := mx_piece) d_M_joins_58 v_1387 rfl (by decide) (by decide) rfl r_mx_19 ?_
      refine ab_iload (i := 5) d_M_joins_61 rfl ?_
      refine ab_iload_n (i := 3) d_M_joins_63 rfl rfl ?_
      refine ab_iast d_M_joins_64 rfl rfl g2 ?_
      refine ab_iinc (i := 5) (v := (v5 + 1)) d_M_joins_65 rfl rfl (by decide) (Or.inr rfl) ?_
      refine ab_goto (tgt := 36) d_M_joins_68 (by decide) ?_
      exact h
theorem cx_M_has_0 {w : ab_Wd} {d n nc ns : Nat} {I : Nat → Nat → Int32} {L : Nat → Nat → Int64} (v0 : Int32) (v1 : Int32) (hT : w.1.stackTraces = false) (e1 : ¬ ((v0 >>> (v1 &&& 31)) &&& 1) = 1) : ab_C w d mt_M_has [.int v0, .int v1] (I, L, ab_RR, n, nc, ns) (.inl (some (.int 0)), (I, L, ab_RR, n, nc, ns)) := by
  refine ab_C_of (by decide) rfl (Nat.le_of_ble_eq_true rfl) hT ?_
  have hc := Nat.le_refl nc
  have hs := Nat.le_refl ns
  refine ab_iload_n (i := 0) d_M_has_0 rfl rfl ?_
  refine ab_iload_n (i := 1) d_M_has_1 rfl rfl ?_
  refine ab_ishr d_M_has_2 ?_
  refine ab_iconst (v := 1) d_M_has_3 rfl ?_
  refine ab_iand d_M_has_4 ?_
  refine ab_iconst (v := 1) d_M_has_5 rfl ?_
  refine ab_icmp_ne (tgt := 13) d_M_has_6 (by decide) (fun _ => ?_) (fun c9 => absurd c9 e1)
  refine ab_iconst (v := 0) d_M_has_13 rfl ?_
  exact ab_iret (ty := .boolean) d_M_has_14 rfl rfl rfl
theorem cx_M_has_1 {w : ab_Wd} {d n nc ns : Nat} {I : Nat → Nat → Int32} {L : Nat → Nat → Int64} (v0 : Int32) (v1 : Int32) (hT : w.1.stackTraces = false) (e1 : ((v0 >>> (v1 &&& 31)) &&& 1) = 1) : ab_C w d mt_M_has [.int v0, .int v1] (I, L, ab_RR, n, nc, ns) (.inl (some (.int 1)), (I, L, ab_RR, n, nc, ns)) := by
  refine ab_C_of (by decide) rfl (Nat.le_of_ble_eq_true rfl) hT ?_
  have hc := Nat.le_refl nc
  have hs := Nat.le_refl ns
  refine ab_iload_n (i := 0) d_M_has_0 rfl rfl ?_
  refine ab_iload_n (i := 1) d_M_has_1 rfl rfl ?_
  refine ab_ishr d_M_has_2 ?_
  refine ab_iconst (v := 1) d_M_has_3 rfl ?_
  refine ab_iand d_M_has_4 ?_
  refine ab_iconst (v := 1) d_M_has_5 rfl ?_
  refine ab_icmp_ne (tgt := 13) d_M_has_6 (by decide) (fun c9 => absurd e1 c9) (fun _ => ?_)
  refine ab_iconst (v := 1) d_M_has_9 rfl ?_
  refine ab_goto (tgt := 14) d_M_has_10 (by decide) ?_
  exact ab_iret (ty := .boolean) d_M_has_14 rfl rfl rfl
