theorem r_M_look_0 {w : ab_Wd} {d n nc ns : Nat} {I : Nat → Nat → Int32} {L : Nat → Nat → Int64} {res : ab_Re} (hT : w.1.stackTraces = false) (v1 : Int32) (hc : nc ≤ res.2.2.2.2.2.1) (hs : ns ≤ res.2.2.2.2.2.2)
    (h : ((v1 < 0 → (res = (.inl (some (.int 0)), ((ab_up (ab_up I mx 1 0) mx 1 1), L, ab_RR, n, nc, ns)))) ∧ (¬ v1 < 0 → ((((I mx_now 0) - 1) < v1 → (res = (.inl (some (.int 0)), ((ab_up (ab_up I mx 1 0) mx 1 1), L, ab_RR, n, nc, ns)))) ∧ (¬ ((I mx_now 0) - 1) < v1 → (((((I mx_now 1) >>> (v1 &&& 31)) &&& 1) = 1 → (∃ (I11 : Nat → Nat → Int32), ab_C w (d + 1) mt_M_tellFits [.ref mx, .int v1] ((ab_up I mx 1 0), L, ab_RR, n, nc, ns) (.inl none, (I11, L, ab_RR, n, nc, ns)) ∧ ((¬ (((I11 mx 49) &&& ((I11 mx 48) ^^^ (-1))) &&& (((1 : Int32) <<< (v1 &&& 31)) ^^^ (-1))) = 0 → (∃ (r13 : Int32), ab_C w (d + 1) mt_Integer_numberOfTrailingZeros [.int (((I11 mx 49) &&& ((I11 mx 48) ^^^ (-1))) &&& (((1 : Int32) <<< (v1 &&& 31)) ^^^ (-1)))] (I11, L, ab_RR, n, nc, ns) (.inl (some (.int r13)), (I11, L, ab_RR, n, nc, ns)) ∧ res = (.inl (some (.int r13)), (I11, L, ab_RR, n, nc, ns)))) ∧ ((((I11 mx 49) &&& ((I11 mx 48) ^^^ (-1))) &&& (((1 : Int32) <<< (v1 &&& 31)) ^^^ (-1))) = 0 → (res = (.inl (some (.int (-1))), (I11, L, ab_RR, n, nc, ns))))))) ∧ (¬ (((I mx_now 1) >>> (v1 &&& 31)) &&& 1) = 1 → (res = (.inl (some (.int 0)), ((ab_up (ab_up I mx 1 0) mx 1 2), L, ab_RR, n, nc, ns)))))))))) : ab_E w (d + 2) mt_M_look 0 [.ref mx, .int v1, .null] [] (I, L, ab_RR, n, nc, ns) res := by
  refine ab_aload_n (i := 0) d_M_look_0 rfl rfl ?_
  refine ab_iconst (v := 0) d_M_look_1 rfl ?_
  refine ab_putI (ci := 11) (k := 1) d_M_look_2 v_1369 rfl (by decide) (by decide) rfl (Or.inl rfl) rfl rfl ?_
  refine ab_aload_n (i := 0) d_M_look_5 rfl rfl ?_
  refine ab_iload_n (i := 1) d_M_look_6 rfl rfl ?_
  by_cases c2 : v1 < 0
  · have h := h.1 c2
    refine ab_callV (me2 := mt_M_isCable) (b := mx) (as := [.int v1]) (st := []) (rv := (some (.int 0))) (M2 := ((ab_up I mx 1 0), L, ab_RR, n, nc, ns)) d_M_look_7 ce_M_isCable v_1748 v_1750 v_105 (by decide) rfl (Nat.le_of_ble_eq_true rfl) (cx_M_isCable_0 v1 hT (show (vp_in 0 399) from by unfold vp_in; decide) c2) (Nat.le_refl _) (Nat.le_refl _) hc hs (fun j h9 => by cases h9) (fun _ _ => rfl) ?_
    show ab_E w (d + 2) mt_M_look 10 [.ref mx, .int v1, .null] [.int 0] ((ab_up I mx 1 0), L, ab_RR, n, nc, ns) res
    refine ab_if_ne (tgt := 19) d_M_look_10 (by decide) (fun c9 => absurd (show (0 : Int32) = 0 from by decide) c9) (fun _ => ?_)
    refine ab_aload_n (i := 0) d_M_look_13 rfl rfl ?_
    refine ab_iconst (v := 1) d_M_look_14 rfl ?_
    refine ab_callV (me2 := mt_M_fail) (b := mx) (as := [.int 1]) (st := []) (rv := (some (.int 0))) (M2 := ((ab_up (ab_up I mx 1 0) mx 1 1), L, ab_RR, n, nc, ns)) d_M_look_15 ce_M_fail v_1562 v_1564 v_66 (by decide) rfl (Nat.le_of_ble_eq_true rfl) (cx_M_fail_0 1 hT) (Nat.le_refl _) (Nat.le_refl _) hc hs (fun j h9 => by cases h9) (fun _ _ => rfl) ?_
    show ab_E w (d + 2) mt_M_look 18 [.ref mx, .int v1, .null] [.int 0] ((ab_up (ab_up I mx 1 0) mx 1 1), L, ab_RR, n, nc, ns) res
    exact ab_iret (ty := .int) d_M_look_18 rfl rfl h
  · have h := h.2 c2
    by_cases c5 : ((I mx_now 0) - 1) < v1
    · have h := h.1 c5
      refine ab_callV (me2 := mt_M_isCable) (b := mx) (as := [.int v1]) (st := []) (rv := (some (.int 0))) (M2 := ((ab_up I mx 1 0), L, ab_RR, n, nc, ns)) d_M_look_7 ce_M_isCable v_1748 v_1750 v_105 (by decide) rfl (Nat.le_of_ble_eq_true rfl) (cx_M_isCable_1 v1 hT (show (vp_in 0 399) from by unfold vp_in; decide) c2 c5) (Nat.le_refl _) (Nat.le_refl _) hc hs (fun j h9 => by cases h9) (fun _ _ => rfl) ?_
      show ab_E w (d + 2) mt_M_look 10 [.ref mx, .int v1, .null] [.int 0] ((ab_up I mx 1 0), L, ab_RR, n, nc, ns) res
      refine ab_if_ne (tgt := 19) d_M_look_10 (by decide) (fun c9 => absurd (show (0 : Int32) = 0 from by decide) c9) (fun _ => ?_)
      refine ab_aload_n (i := 0) d_M_look_13 rfl rfl ?_
      refine ab_iconst (v := 1) d_M_look_14 rfl ?_
      refine ab_callV (me2 := mt_M_fail) (b := mx) (as := [.int 1]) (st := []) (rv := (some (.int 0))) (M2 := ((ab_up (ab_up I mx 1 0) mx 1 1), L, ab_RR, n, nc, ns)) d_M_look_15 ce_M_fail v_1562 v_1564 v_66 (by decide) rfl (Nat.le_of_ble_eq_true rfl) (cx_M_fail_0 1 hT) (Nat.le_refl _) (Nat.le_refl _) hc hs (fun j h9 => by cases h9) (fun _ _ => rfl) ?_
      show ab_E w (d + 2) mt_M_look 18 [.ref mx, .int v1, .null] [.int 0] ((ab_up (ab_up I mx 1 0) mx 1 1), L, ab_RR, n, nc, ns) res
      exact ab_iret (ty := .int) d_M_look_18 rfl rfl h
    · have h := h.2 c5
      refine ab_callV (me2 := mt_M_isCable) (b := mx) (as := [.int v1]) (st := []) (rv := (some (.int 1))) (M2 := ((ab_up I mx 1 0), L, ab_RR, n, nc, ns)) d_M_look_7 ce_M_isCable v_1748 v_1750 v_105 (by decide) rfl (Nat.le_of_ble_eq_true rfl) (cx_M_isCable_2 v1 hT (show (vp_in 0 399) from by unfold vp_in; decide) c2 c5) (Nat.le_refl _) (Nat.le_refl _) hc hs (fun j h9 => by cases h9) (fun _ _ => rfl) ?_
      show ab_E w (d + 2) mt_M_look 10 [.ref mx, .int v1, .null] [.int 1] ((ab_up I mx 1 0), L, ab_RR, n, nc, ns) res
      refine ab_if_ne (tgt := 19) d_M_look_10 (by decide) (fun _ => ?_) (fun c9 => absurd c9 (show ¬ (1 : Int32) = 0 from by decide))
      refine ab_aload_n (i := 0) d_M_look_19 rfl rfl ?_
      refine ab_iload_n (i := 1) d_M_look_20 rfl rfl ?_
      by_cases c9 : (((I mx_now 1) >>> (v1 &&& 31)) &&& 1) = 1
      · have h := h.1 c9
        refine ab_callV (me2 := mt_M_isSound) (b := mx) (as := [.int v1]) (st := []) (rv := (some (.int 1))) (M2 := ((ab_up I mx 1 0), L, ab_RR, n, nc, ns)) d_M_look_21 ce_M_isSound v_1679 v_1681 v_89 (by decide) rfl (Nat.le_of_ble_eq_true rfl) (cx_M_isSound_1 v1 hT (show (vp_in 1 399) from by unfold vp_in; decide) c9) (Nat.le_refl _) (Nat.le_refl _) hc hs (fun j h9 => by cases h9) (fun _ _ => rfl) ?_
        show ab_E w (d + 2) mt_M_look 24 [.ref mx, .int v1, .null] [.int 1] ((ab_up I mx 1 0), L, ab_RR, n, nc, ns) res
        refine ab_if_ne (tgt := 33) d_M_look_24 (by decide) (fun _ => ?_) (fun c9 => absurd c9 (show ¬ (1 : Int32) = 0 from by decide))
        refine ab_aload_n (i := 0) d_M_look_33 rfl rfl ?_
        refine ab_iload_n (i := 1) d_M_look_34 rfl rfl ?_
        obtain ⟨I11, hC, h⟩ := h
        refine ab_callV (me2 := mt_M_tellFits) (b := mx) (as := [.int v1]) (st := []) (rv := none) (M2 := (I11, L, ab_RR, n, nc, ns)) d_M_look_35 ce_M_tellFits v_1964 v_1966 v_135 (by decide) rfl (Nat.le_of_ble_eq_true rfl) hC (Nat.le_refl _) (Nat.le_refl _) hc hs (fun j h9 => by cases h9) (fun _ _ => rfl) ?_
        show ab_E w (d + 2) mt_M_look 38 [.ref mx, .int v1, .null] [] (I11, L, ab_RR, n, nc, ns) res
        refine ab_aload_n (i := 0) d_M_look_38 rfl rfl ?_
        refine ab_getI (ci := 11) (k := 49) d_M_look_39 v_1417 rfl (by decide) (by decide) rfl ?_
        refine ab_aload_n (i := 0) d_M_look_42 rfl rfl ?_
        refine ab_getI (ci := 11) (k := 48) d_M_look_43 v_1416 rfl (by decide) (by decide) rfl ?_
        refine ab_iconst (v := (-1)) d_M_look_46 rfl ?_
        refine ab_ixor d_M_look_47 ?_
        refine ab_iand d_M_look_48 ?_
        refine ab_iconst (v := 1) d_M_look_49 rfl ?_
        refine ab_iload_n (i := 1) d_M_look_50 rfl rfl ?_
        refine ab_ishl d_M_look_51 ?_
        refine ab_iconst (v := (-1)) d_M_look_52 rfl ?_
        refine ab_ixor d_M_look_53 ?_
        refine ab_iand d_M_look_54 ?_
        refine ab_istore_n (i := 2) d_M_look_55 rfl (by decide) (Or.inr rfl) ?_
        refine ab_iload_n (i := 2) d_M_look_56 rfl rfl ?_
        refine ab_if_ne (tgt := 64) d_M_look_57 (by decide) (fun c12 => ?_) (fun c12 => ?_)
        · have h := h.1 c12
          refine ab_iload_n (i := 2) d_M_look_64 rfl rfl ?_
          obtain ⟨r13, hC, h⟩ := h
          refine ab_callS (me2 := mt_Integer_numberOfTrailingZeros) (as := [.int (((I11 mx 49) &&& ((I11 mx 48) ^^^ (-1))) &&& (((1 : Int32) <<< (v1 &&& 31)) ^^^ (-1)))]) (st := []) (rv := (some (.int r13))) (M2 := (I11, L, ab_RR, n, nc, ns)) d_M_look_65 ce_Integer_numberOfTrailingZeros ⟨v_1917, Or.inl v_1916⟩ (Nat.le_of_ble_eq_true rfl) hC (Nat.le_refl _) (Nat.le_refl _) hc hs (fun j h9 => by cases h9) (fun _ _ => rfl) ?_
          show ab_E w (d + 2) mt_M_look 68 [.ref mx, .int v1, .int (((I11 mx 49) &&& ((I11 mx 48) ^^^ (-1))) &&& (((1 : Int32) <<< (v1 &&& 31)) ^^^ (-1)))] [.int r13] (I11, L, ab_RR, n, nc, ns) res
          exact ab_iret (ty := .int) d_M_look_68 rfl rfl h
        · have h := h.2 c12
          refine ab_iconst (v := (-1)) d_M_look_60 rfl ?_
          refine ab_goto (tgt := 68) d_M_look_61 (by decide) ?_
          exact ab_iret (ty := .int) d_M_look_68 rfl rfl h
      · have h := h.2 c9
        refine ab_callV (me2 := mt_M_isSound) (b := mx) (as := [.int v1]) (st := []) (rv := (some (.int 0))) (M2 := ((ab_up I mx 1 0), L, ab_RR, n, nc, ns)) d_M_look_21 ce_M_isSound v_1679 v_1681 v_89 (by decide) rfl (Nat.le_of_ble_eq_true rfl) (cx_M_isSound_0 v1 hT (show (vp_in 1 399) from by unfold vp_in; decide) c9) (Nat.le_refl _) (Nat.le_refl _) hc hs (fun j h9 => by cases h9) (fun _ _ => rfl) ?_
        show ab_E w (d + 2) mt_M_look 24 [.ref mx, .int v1, .null] [.int 0] ((ab_up I mx 1 0), L, ab_RR, n, nc, ns) res
        refine ab_if_ne (tgt := 33) d_M_look_24 (by decide) (fun c9 => absurd (show (0 : Int32) = 0 from by decide) c9) (fun _ => ?_)
        refine ab_aload_n (i := 0) d_M_look_27 rfl rfl ?_
        refine ab_iconst (v := 2) d_M_look_28 rfl ?_
        refine ab_callV (me2 := mt_M_fail) (b := mx) (as := [.int 2]) (st := []) (rv := (some (.int 0))) (M2 := ((ab_up (ab_up I mx 1 0) mx 1 2), L, ab_RR, n, nc, ns)) d_M_look_29 ce_M_fail v_1562 v_1564 v_66 (by decide) rfl (Nat.le_of_ble_eq_true rfl) (cx_M_fail_0 2 hT) (Nat.le_refl _) (Nat.le_refl _) hc hs (fun j h9 => by cases h9) (fun _ _ => rfl) ?_
        show ab_E w (d + 2) mt_M_look 32 [.ref mx, .int v1, .null] [.int 0] ((ab_up (ab_up I mx 1 0) mx 1 2), L, ab_RR, n, nc, ns) res
        exact ab_iret (ty := .int) d_M_look_32 rfl rfl h
theorem cx_M_draw_0 {w : ab_Wd} {d n nc ns : Nat} {I : Nat → Nat → Int32} {L : Nat → Nat → Int64} (v1 : Int32) (hT : w.1.stackTraces = false) (e1 : (¬ v1 = 0)) : ab_C w d mt_M_draw [.ref mx, .int v1] (I, L, ab_RR, n, nc, ns) (.inl (some (.int ((((((I mx 50) * 1103515245) + 12345) >>> ((16 : Int32) &&& 31)) &&& 32767) - (((((I mx 50) * 1103515245) + 12345) >>> ((16 : Int32) &&& 31)) &&& 32767) / v1 * v1))), ((ab_up I mx 50 (((I mx 50) * 1103515245) + 12345)), L, ab_RR, n, nc, ns)) := by
  refine ab_C_of (by decide) rfl (Nat.le_of_ble_eq_true rfl) hT ?_
  have hc := Nat.le_refl nc
  have hs := Nat.le_refl ns
  refine ab_aload_n (i := 0) d_M_draw_0 rfl rfl ?_
  refine ab_aload_n (i := 0) d_M_draw_1 rfl rfl ?_
  refine ab_getI (ci := 11) (k := 50) d_M_draw_2 v_1418 rfl (by decide) (by decide) rfl ?_
  refine ab_ldcw (v := 1103515245) d_M_draw_5 v_1988 ?_
  refine ab_imul d_M_draw_8 ?_
  refine ab_sipush (v := 12345) d_M_draw_9 rfl ?_
  refine ab_iadd d_M_draw_12 ?_
  refine ab_putI (ci := 11) (k := 50) d_M_draw_13 v_1418 rfl (by decide) (by decide) rfl (Or.inl rfl) rfl rfl ?_
  refine ab_aload_n (i := 0) d_M_draw_16 rfl rfl ?_
  refine ab_getI (ci := 11) (k := 50) d_M_draw_17 v_1418 rfl (by decide) (by decide) rfl ?_
  refine ab_bipush (v := 16) d_M_draw_20 rfl ?_
  refine ab_ishr d_M_draw_22 ?_
  refine ab_sipush (v := 32767) d_M_draw_23 rfl ?_
  refine ab_iand d_M_draw_26 ?_
  refine ab_iload_n (i := 1) d_M_draw_27 rfl rfl ?_
  refine ab_irem d_M_draw_28 e1 ?_
  exact ab_iret (ty := .int) d_M_draw_29 rfl rfl rfl
theorem r_M_happens_0 {w : ab_Wd} {d n nc ns : Nat} {I : Nat → Nat → Int32} {L : Nat → Nat → Int64} {res : ab_Re} (hT : w.1.stackTraces = false)  (hc : nc ≤ res.2.2.2.2.2.1) (hs : ns ≤ res.2.2.2.2.2.2)
    (h : ((¬ (I mx_now 0) = 0 → ((¬ (I mx_now 0) = 0) ∧ ((6 ≤ ((((((I mx 50) * 1103515245) + 12345) >>> ((16 : Int32) &&& 31)) &&& 32767) - (((((I mx 50) * 1103515245) + 12345) >>> ((16 : Int32) &&& 31)) &&& 32767) / 8 * 8) → (∃ (I11 : Nat → Nat → Int32), ab_C w d mt_M_turnsNow [.ref mx, .int ((((((((I mx 50) * 1103515245) + 12345) * 1103515245) + 12345) >>> ((16 : Int32) &&& 31)) &&& 32767) - (((((((I mx 50) * 1103515245) + 12345) * 1103515245) + 12345) >>> ((16 : Int32) &&& 31)) &&& 32767) / (I mx_now 0) * (I mx_now 0))] ((ab_up (ab_up I mx 50 (((I mx 50) * 1103515245) + 12345)) mx 50 (((((I mx 50) * 1103515245) + 12345) * 1103515245) + 12345)), L, ab_RR, n, nc, ns) (.inl none, (I11, L, ab_RR, n, nc, ns)) ∧ res = (.inl none, (I11, L, ab_RR, n, nc, ns)))) ∧ (¬ 6 ≤ ((((((I mx 50) * 1103515245) + 12345) >>> ((16 : Int32) &&& 31)) &&& 32767) - (((((I mx 50) * 1103515245) + 12345) >>> ((16 : Int32) &&& 31)) &&& 32767) / 8 * 8) → ((vp_in (51 + ((((((((I mx 50) * 1103515245) + 12345) * 1103515245) + 12345) >>> ((16 : Int32) &&& 31)) &&& 32767) - (((((((I mx 50) * 1103515245) + 12345) * 1103515245) + 12345) >>> ((16 : Int32) &&& 31)) &&& 32767) / (I mx_now 0) * (I mx_now 0))) 399) ∧ ∃ (I17 : Nat → Nat → Int32), ab_C w d mt_M_pricesNow [.ref mx, .int ((((((((I mx 50) * 1103515245) + 12345) * 1103515245) + 12345) >>> ((16 : Int32) &&& 31)) &&& 32767) - (((((((I mx 50) * 1103515245) + 12345) * 1103515245) + 12345) >>> ((16 : Int32) &&& 31)) &&& 32767) / (I mx_now 0) * (I mx_now 0)), .int (ab_max32 1 (ab_min32 999 (((I mx_now (51 + ((((((((I mx 50) * 1103515245) + 12345) * 1103515245) + 12345) >>> ((16 : Int32) &&& 31)) &&& 32767) - (((((((I mx 50) * 1103515245) + 12345) * 1103515245) + 12345) >>> ((16 : Int32) &&& 31)) &&& 32767) / (I mx_now 0) * (I mx_now 0))).toNatClampNeg) + ((((((((((I mx 50) * 1103515245) + 12345) * 1103515245) + 12345) * 1103515245) + 12345) >>> ((16 : Int32) &&& 31)) &&& 32767) - (((((((((I mx 50) * 1103515245) + 12345) * 1103515245) + 12345) * 1103515245) + 12345) >>> ((16 : Int32) &&& 31)) &&& 32767) / 41 * 41)) - 20)))] ((ab_up (ab_up (ab_up I mx 50 (((I mx 50) * 1103515245) + 12345)) mx 50 (((((I mx 50) * 1103515245) + 12345) * 1103515245) + 12345)) mx 50 (((((((I mx 50) * 1103515245) + 12345) * 1103515245) + 12345) * 1103515245) + 12345)), L, ab_RR, n, nc, ns) (.inl none, (I17, L, ab_RR, n, nc, ns)) ∧ res = (.inl none, (I17, L, ab_RR, n, nc, ns))))))) ∧ ((I mx_now 0) = 0 → (res = (.inl none, ((ab_up I mx 50 (((I mx 50) * 1103515245) + 12345)), L, ab_RR, n, nc, ns)))))) : ab_E w (d + 1) mt_M_happens 0 [.ref mx, .null, .null] [] (I, L, ab_RR, n, nc, ns) res := by
  refine ab_aload_n (i := 0) d_M_happens_0 rfl rfl ?_
  refine ab_bipush (v := 8) d_M_happens_1 rfl ?_
  refine ab_callV (me2 := mt_M_draw) (b := mx) (as := [.int 8]) (st := []) (rv := (some (.int ((((((I mx 50) * 1103515245) + 12345) >>> ((16 : Int32) &&& 31)) &&& 32767) - (((((I mx 50) * 1103515245) + 12345) >>> ((16 : Int32) &&& 31)) &&& 32767) / 8 * 8)))) (M2 := ((ab_up I mx 50 (((I mx 50) * 1103515245) + 12345)), L, ab_RR, n, nc, ns)) d_M_happens_3 ce_M_draw v_1984 v_1986 v_138 (by decide) rfl (Nat.le_of_ble_eq_true rfl) (cx_M_draw_0 8 hT (show (¬ 8 = 0) from by decide)) (Nat.le_refl _) (Nat.le_refl _) hc hs (fun j h9 => by cases h9) (fun _ _ => rfl) ?_
  show ab_E w (d + 1) mt_M_happens 6 [.ref mx, .null, .null] [.int ((((((I mx 50) * 1103515245) + 12345) >>> ((16 : Int32) &&& 31)) &&& 32767) - (((((I mx 50) * 1103515245) + 12345) >>> ((16 : Int32) &&& 31)) &&& 32767) / 8 * 8)] ((ab_up I mx 50 (((I mx 50) * 1103515245) + 12345)), L, ab_RR, n, nc, ns) res
  refine ab_istore_n (i := 1) d_M_happens_6 rfl (by decide) (Or.inr rfl) ?_
  refine ab_aload_n (i := 0) d_M_happens_7 rfl rfl ?_
  refine ab_callV (me2 := mt_M_many) (b := mx) (as := []) (st := []) (rv := (some (.int (I mx_now 0)))) (M2 := ((ab_up I mx 50 (((I mx 50) * 1103515245) + 12345)), L, ab_RR, n, nc, ns)) d_M_happens_8 ce_M_many v_1635 v_1637 v_79 (by decide) rfl (Nat.le_of_ble_eq_true rfl) (cx_M_many_0  hT (show (vp_in 0 399) from by unfold vp_in; decide)) (Nat.le_refl _) (Nat.le_refl _) hc hs (fun j h9 => by cases h9) (fun _ _ => rfl) ?_
  show ab_E w (d + 1) mt_M_happens 11 [.ref mx, .int ((((((I mx 50) * 1103515245) + 12345) >>> ((16 : Int32) &&& 31)) &&& 32767) - (((((I mx 50) * 1103515245) + 12345) >>> ((16 : Int32) &&& 31)) &&& 32767) / 8 * 8), .null] [.int (I mx_now 0)] ((ab_up I mx 50 (((I mx 50) * 1103515245) + 12345)), L, ab_RR, n, nc, ns) res
  refine ab_if_ne (tgt := 15) d_M_happens_11 (by decide) (fun c4 => ?_) (fun c4 => ?_)
  · have h := h.1 c4
    refine ab_aload_n (i := 0) d_M_happens_15 rfl rfl ?_
    refine ab_aload_n (i := 0) d_M_happens_16 rfl rfl ?_
    refine ab_callV (me2 := mt_M_many) (b := mx) (as := []) (st := [.ref mx]) (rv := (some (.int (I mx_now 0)))) (M2 := ((ab_up I mx 50 (((I mx 50) * 1103515245) + 12345)), L, ab_RR, n, nc, ns)) d_M_happens_17 ce_M_many v_1635 v_1637 v_79 (by decide) rfl (Nat.le_of_ble_eq_true rfl) (cx_M_many_0  hT (show (vp_in 0 399) from by unfold vp_in; decide)) (Nat.le_refl _) (Nat.le_refl _) hc hs (fun j h9 => by cases h9) (fun _ _ => rfl) ?_
    show ab_E w (d + 1) mt_M_happens 20 [.ref mx, .int ((((((I mx 50) * 1103515245) + 12345) >>> ((16 : Int32) &&& 31)) &&& 32767) - (((((I mx 50) * 1103515245) + 12345) >>> ((16 : Int32) &&& 31)) &&& 32767) / 8 * 8), .null] [.int (I mx_now 0), .ref mx] ((ab_up I mx 50 (((I mx 50) * 1103515245) + 12345)), L, ab_RR, n, nc, ns) res
    have g8 := h.1; have h := h.2
    refine ab_callV (me2 := mt_M_draw) (b := mx) (as := [.int (I mx_now 0)]) (st := []) (rv := (some (.int ((((((((I mx 50) * 1103515245) + 12345) * 1103515245) + 12345) >>> ((16 : Int32) &&& 31)) &&& 32767) - (((((((I mx 50) * 1103515245) + 12345) * 1103515245) + 12345) >>> ((16 : Int32) &&& 31)) &&& 32767) / (I mx_now 0) * (I mx_now 0))))) (M2 := ((ab_up (ab_up I mx 50 (((I mx 50) * 1103515245) + 12345)) mx 50 (((((I mx 50) * 1103515245) + 12345) * 1103515245) + 12345)), L, ab_RR, n, nc, ns)) d_M_happens_20 ce_M_draw v_1984 v_1986 v_138 (by decide) rfl (Nat.le_of_ble_eq_true rfl) (cx_M_draw_0 (I mx_now 0) hT g8) (Nat.le_refl _) (Nat.le_refl _) hc hs (fun j h9 => by cases h9) (fun _ _ => rfl) ?_
    show ab_E w (d + 1) mt_M_happens 23 [.ref mx, .int ((((((I mx 50) * 1103515245) + 12345) >>> ((16 : Int32) &&& 31)) &&& 32767) - (((((I mx 50) * 1103515245) + 12345) >>> ((16 : Int32) &&& 31)) &&& 32767) / 8 * 8), .null] [.int ((((((((I mx 50) * 1103515245) + 12345) * 1103515245) + 12345) >>> ((16 : Int32) &&& 31)) &&& 32767) - (((((((I mx 50) * 1103515245) + 12345) * 1103515245) + 12345) >>> ((16 : Int32) &&& 31)) &&& 32767) / (I mx_now 0) * (I mx_now 0))] ((ab_up (ab_up I mx 50 (((I mx 50) * 1103515245) + 12345)) mx 50 (((((I mx 50) * 1103515245) + 12345) * 1103515245) + 12345)), L, ab_RR, n, nc, ns) res
    refine ab_istore_n (i := 2) d_M_happens_23 rfl (by decide) (Or.inr rfl) ?_
    refine ab_iload_n (i := 1) d_M_happens_24 rfl rfl ?_
    refine ab_bipush (v := 6) d_M_happens_25 rfl ?_
    refine ab_icmp_ge (tgt := 63) d_M_happens_27 (by decide) (fun c9 => ?_) (fun c9 => ?_)
    · have h := h.1 c9
      refine ab_aload_n (i := 0) d_M_happens_63 rfl rfl ?_
      refine ab_iload_n (i := 2) d_M_happens_64 rfl rfl ?_
      obtain ⟨I11, hC, h⟩ := h
      refine ab_callV (me2 := mt_M_turnsNow) (b := mx) (as := [.int ((((((((I mx 50) * 1103515245) + 12345) * 1103515245) + 12345) >>> ((16 : Int32) &&& 31)) &&& 32767) - (((((((I mx 50) * 1103515245) + 12345) * 1103515245) + 12345) >>> ((16 : Int32) &&& 31)) &&& 32767) / (I mx_now 0) * (I mx_now 0))]) (st := []) (rv := none) (M2 := (I11, L, ab_RR, n, nc, ns)) d_M_happens_65 ce_M_turnsNow v_1936 v_1938 v_134 (by decide) rfl (Nat.le_of_ble_eq_true rfl) hC (Nat.le_refl _) (Nat.le_refl _) hc hs (fun j h9 => by cases h9) (fun _ _ => rfl) ?_
      show ab_E w (d + 1) mt_M_happens 68 [.ref mx, .int ((((((I mx 50) * 1103515245) + 12345) >>> ((16 : Int32) &&& 31)) &&& 32767) - (((((I mx 50) * 1103515245) + 12345) >>> ((16 : Int32) &&& 31)) &&& 32767) / 8 * 8), .int ((((((((I mx 50) * 1103515245) + 12345) * 1103515245) + 12345) >>> ((16 : Int32) &&& 31)) &&& 32767) - (((((((I mx 50) * 1103515245) + 12345) * 1103515245) + 12345) >>> ((16 : Int32) &&& 31)) &&& 32767) / (I mx_now 0) * (I mx_now 0))] [] (I11, L, ab_RR, n, nc, ns) res
      exact ab_vret d_M_happens_68 rfl h
    · have h := h.2 c9
      refine ab_aload_n (i := 0) d_M_happens_30 rfl rfl ?_
      refine ab_iload_n (i := 2) d_M_happens_31 rfl rfl ?_
      refine ab_iconst (v := 1) d_M_happens_32 rfl ?_
      refine ab_sipush (v := 999) d_M_happens_33 rfl ?_
      refine ab_aload_n (i := 0) d_M_happens_36 rfl rfl ?_
      refine ab_iload_n (i := 2) d_M_happens_37 rfl rfl ?_
      have g13 := h.1; have h := h.2
      refine ab_callV (me2 := mt_M_priceOf) (b := mx) (as := [.int ((((((((I mx 50) * 1103515245) + 12345) * 1103515245) + 12345) >>> ((16 : Int32) &&& 31)) &&& 32767) - (((((((I mx 50) * 1103515245) + 12345) * 1103515245) + 12345) >>> ((16 : Int32) &&& 31)) &&& 32767) / (I mx_now 0) * (I mx_now 0))]) (st := [.int 999, .int 1, .int ((((((((I mx 50) * 1103515245) + 12345) * 1103515245) + 12345) >>> ((16 : Int32) &&& 31)) &&& 32767) - (((((((I mx 50) * 1103515245) + 12345) * 1103515245) + 12345) >>> ((16 : Int32) &&& 31)) &&& 32767) / (I mx_now 0) * (I mx_now 0)), .ref mx]) (rv := (some (.int (I mx_now (51 + ((((((((I mx 50) * 1103515245) + 12345) * 1103515245) + 12345) >>> ((16 : Int32) &&& 31)) &&& 32767) - (((((((I mx 50) * 1103515245) + 12345) * 1103515245) + 12345) >>> ((16 : Int32) &&& 31)) &&& 32767) / (I mx_now 0) * (I mx_now 0))).toNatClampNeg)))) (M2 := ((ab_up (ab_up I mx 50 (((I mx 50) * 1103515245) + 12345)) mx 50 (((((I mx 50) * 1103515245) + 12345) * 1103515245) + 12345)), L, ab_RR, n, nc, ns)) d_M_happens_38 ce_M_priceOf v_1654 v_1656 v_83 (by decide) rfl (Nat.le_of_ble_eq_true rfl) (cx_M_priceOf_0 ((((((((I mx 50) * 1103515245) + 12345) * 1103515245) + 12345) >>> ((16 : Int32) &&& 31)) &&& 32767) - (((((((I mx 50) * 1103515245) + 12345) * 1103515245) + 12345) >>> ((16 : Int32) &&& 31)) &&& 32767) / (I mx_now 0) * (I mx_now 0)) hT g13) (Nat.le_refl _) (Nat.le_refl _) hc hs (fun j h9 => by cases h9) (fun _ _ => rfl) ?_
      show ab_E w (d + 1) mt_M_happens 41 [.ref mx, .int ((((((I mx 50) * 1103515245) + 12345) >>> ((16 : Int32) &&& 31)) &&& 32767) - (((((I mx 50) * 1103515245) + 12345) >>> ((16 : Int32) &&& 31)) &&& 32767) / 8 * 8), .int ((((((((I mx 50) * 1103515245) + 12345) * 1103515245) + 12345) >>> ((16 : Int32) &&& 31)) &&& 32767) - (((((((I mx 50) * 1103515245) + 12345) * 1103515245) + 12345) >>> ((16 : Int32) &&& 31)) &&& 32767) / (I mx_now 0) * (I mx_now 0))] [.int (I mx_now (51 + ((((((((I mx 50) * 1103515245) + 12345) * 1103515245) + 12345) >>> ((16 : Int32) &&& 31)) &&& 32767) - (((((((I mx 50) * 1103515245) + 12345) * 1103515245) + 12345) >>> ((16 : Int32) &&& 31)) &&& 32767) / (I mx_now 0) * (I mx_now 0))).toNatClampNeg), .int 999, .int 1, .int ((((((((I mx 50) * 1103515245) + 12345) * 1103515245) + 12345) >>> ((16 : Int32) &&& 31)) &&& 32767) - (((((((I mx 50) * 1103515245) + 12345) * 1103515245) + 12345) >>> ((16 : Int32) &&& 31)) &&& 32767) / (I mx_now 0) * (I mx_now 0)), .ref mx] ((ab_up (ab_up I mx 50 (((I mx 50) * 1103515245) + 12345)) mx 50 (((((I mx 50) * 1103515245) + 12345) * 1103515245) + 12345)), L, ab_RR, n, nc, ns) res
      refine ab_aload_n (i := 0) d_M_happens_41 rfl rfl ?_
      refine ab_bipush (v := 41) d_M_happens_42 rfl ?_
      refine ab_callV (me2 := mt_M_draw) (b := mx) (as := [.int 41]) (st := [.int (I mx_now (51 + ((((((((I mx 50) * 1103515245) + 12345) * 1103515245) + 12345) >>> ((16 : Int32) &&& 31)) &&& 32767) - (((((((I mx 50) * 1103515245) + 12345) * 1103515245) + 12345) >>> ((16 : Int32) &&& 31)) &&& 32767) / (I mx_now 0) * (I mx_now 0))).toNatClampNeg), .int 999, .int 1, .int ((((((((I mx 50) * 1103515245) + 12345) * 1103515245) + 12345) >>> ((16 : Int32) &&& 31)) &&& 32767) - (((((((I mx 50) * 1103515245) + 12345) * 1103515245) + 12345) >>> ((16 : Int32) &&& 31)) &&& 32767) / (I mx_now 0) * (I mx_now 0)), .ref mx]) (rv := (some (.int ((((((((((I mx 50) * 1103515245) + 12345) * 1103515245) + 12345) * 1103515245) + 12345) >>> ((16 : Int32) &&& 31)) &&& 32767) - (((((((((I mx 50) * 1103515245) + 12345) * 1103515245) + 12345) * 1103515245) + 12345) >>> ((16 : Int32) &&& 31)) &&& 32767) / 41 * 41)))) (M2 := ((ab_up (ab_up (ab_up I mx 50 (((I mx 50) * 1103515245) + 12345)) mx 50 (((((I mx 50) * 1103515245) + 12345) * 1103515245) + 12345)) mx 50 (((((((I mx 50) * 1103515245) + 12345) * 1103515245) + 12345) * 1103515245) + 12345)), L, ab_RR, n, nc, ns)) d_M_happens_44 ce_M_draw v_1984 v_1986 v_138 (by decide) rfl (Nat.le_of_ble_eq_true rfl) (cx_M_draw_0 41 hT (show (¬ 41 = 0) from by decide)) (Nat.le_refl _) (Nat.le_refl _) hc hs (fun j h9 => by cases h9) (fun _ _ => rfl) ?_
      show ab_E w (d + 1) mt_M_happens 47 [.ref mx, .int ((((((I mx 50) * 1103515245) + 12345) >>> ((16 : Int32) &&& 31)) &&& 32767) - (((((I mx 50) * 1103515245) + 12345) >>> ((16 : Int32) &&& 31)) &&& 32767) / 8 * 8), .int ((((((((I mx 50) * 1103515245) + 12345) * 1103515245) + 12345) >>> ((16 : Int32) &&& 31)) &&& 32767) - (((((((I mx 50) * 1103515245) + 12345) * 1103515245) + 12345) >>> ((16 : Int32) &&& 31)) &&& 32767) / (I mx_now 0) * (I mx_now 0))] [.int ((((((((((I mx 50) * 1103515245) + 12345) * 1103515245) + 12345) * 1103515245) + 12345) >>> ((16 : Int32) &&& 31)) &&& 32767) - (((((((((I mx 50) * 1103515245) + 12345) * 1103515245) + 12345) * 1103515245) + 12345) >>> ((16 : Int32) &&& 31)) &&& 32767) / 41 * 41), .int (I mx_now (51 + ((((((((I mx 50) * 1103515245) + 12345) * 1103515245) + 12345) >>> ((16 : Int32) &&& 31)) &&& 32767) - (((((((I mx 50) * 1103515245) + 12345) * 1103515245) + 12345) >>> ((16 : Int32) &&& 31)) &&& 32767) / (I mx_now 0) * (I mx_now 0))).toNatClampNeg), .int 999, .int 1, .int ((((((((I mx 50) * 1103515245) + 12345) * 1103515245) + 12345) >>> ((16 : Int32) &&& 31)) &&& 32767) - (((((((I mx 50) * 1103515245) + 12345) * 1103515245) + 12345) >>> ((16 : Int32) &&& 31)) &&& 32767) / (I mx_now 0) * (I mx_now 0)), .ref mx] ((ab_up (ab_up (ab_up I mx 50 (((I mx 50) * 1103515245) + 12345)) mx 50 (((((I mx 50) * 1103515245) + 12345) * 1103515245) + 12345)) mx 50 (((((((I mx 50) * 1103515245) + 12345) * 1103515245) + 12345) * 1103515245) + 12345)), L, ab_RR, n, nc, ns) res
      refine ab_iadd d_M_happens_47 ?_
      refine ab_bipush (v := 20) d_M_happens_48 rfl ?_
      refine ab_isub d_M_happens_50 ?_
      refine ab_min d_M_happens_51 v_1581 v_448 v_150 v_449 (Nat.succ_le_succ (Nat.zero_le _)) (Nat.le_of_ble_eq_true rfl) hc hs ?_
      refine ab_max d_M_happens_54 v_1662 v_451 v_150 v_452 (Nat.succ_le_succ (Nat.zero_le _)) (Nat.le_of_ble_eq_true rfl) hc hs ?_
      obtain ⟨I17, hC, h⟩ := h
      refine ab_callV (me2 := mt_M_pricesNow) (b := mx) (as := [.int ((((((((I mx 50) * 1103515245) + 12345) * 1103515245) + 12345) >>> ((16 : Int32) &&& 31)) &&& 32767) - (((((((I mx 50) * 1103515245) + 12345) * 1103515245) + 12345) >>> ((16 : Int32) &&& 31)) &&& 32767) / (I mx_now 0) * (I mx_now 0)), .int (ab_max32 1 (ab_min32 999 (((I mx_now (51 + ((((((((I mx 50) * 1103515245) + 12345) * 1103515245) + 12345) >>> ((16 : Int32) &&& 31)) &&& 32767) - (((((((I mx 50) * 1103515245) + 12345) * 1103515245) + 12345) >>> ((16 : Int32) &&& 31)) &&& 32767) / (I mx_now 0) * (I mx_now 0))).toNatClampNeg) + ((((((((((I mx 50) * 1103515245) + 12345) * 1103515245) + 12345) * 1103515245) + 12345) >>> ((16 : Int32) &&& 31)) &&& 32767) - (((((((((I mx 50) * 1103515245) + 12345) * 1103515245) + 12345) * 1103515245) + 12345) >>> ((16 : Int32) &&& 31)) &&& 32767) / 41 * 41)) - 20)))]) (st := []) (rv := none) (M2 := (I17, L, ab_RR, n, nc, ns)) d_M_happens_57 ce_M_pricesNow v_1908 v_1910 v_130 (by decide) rfl (Nat.le_of_ble_eq_true rfl) hC (Nat.le_refl _) (Nat.le_refl _) hc hs (fun j h9 => by cases h9) (fun _ _ => rfl) ?_
      show ab_E w (d + 1) mt_M_happens 60 [.ref mx, .int ((((((I mx 50) * 1103515245) + 12345) >>> ((16 : Int32) &&& 31)) &&& 32767) - (((((I mx 50) * 1103515245) + 12345) >>> ((16 : Int32) &&& 31)) &&& 32767) / 8 * 8), .int ((((((((I mx 50) * 1103515245) + 12345) * 1103515245) + 12345) >>> ((16 : Int32) &&& 31)) &&& 32767) - (((((((I mx 50) * 1103515245) + 12345) * 1103515245) + 12345) >>> ((16 : Int32) &&& 31)) &&& 32767) / (I mx_now 0) * (I mx_now 0))] [] (I17, L, ab_RR, n, nc, ns) res
      refine ab_goto (tgt := 68) d_M_happens_60 (by decide) ?_
      exact ab_vret d_M_happens_68 rfl h
  · have h := h.2 c4
    exact ab_vret d_M_happens_14 rfl h
theorem r_M_years_0 {w : ab_Wd} {d n nc ns : Nat} {I : Nat → Nat → Int32} {L : Nat → Nat → Int64} {res : ab_Re} (hT : w.1.stackTraces = false) (v1 : Int32) (v2 : Int32) (v3 : Int32) (hc : nc ≤ res.2.2.2.2.2.1) (hs : ns ≤ res.2.2.2.2.2.2)
    (h : ((v3 < 0 → (res = (.inl (some (.int 0)), ((ab_up (ab_up I mx 1 0) mx 1 1), L, ab_RR, n, nc, ns)))) ∧ (¬ v3 < 0 → ((2 < v3 → (res = (.inl (some (.int 0)), ((ab_up (ab_up I mx 1 0) mx 1 1), L, ab_RR, n, nc, ns)))) ∧ (¬ 2 < v3 → ((v2 < 0 → (res = (.inl (some (.int 0)), ((ab_up (ab_up I mx 1 0) mx 1 2), L, ab_RR, n, nc, ns)))) ∧ (¬ v2 < 0 → ((60 < v2 → (res = (.inl (some (.int 0)), ((ab_up (ab_up I mx 1 0) mx 1 2), L, ab_RR, n, nc, ns)))) ∧ (¬ 60 < v2 → (∃ (I16 : Nat → Nat → Int32), ab_C w d mt_M_copyTo [.ref mx_rowThen, .ref mx_now] ((ab_up I mx 1 0), L, ab_RR, n, nc, ns) (.inl none, (I16, L, ab_RR, n, nc, ns)) ∧ ab_E w (d + 1) mt_M_years 55 [.ref mx, .int v1, .int v2, .int v3, .int 0] [] ((ab_up I16 mx 50 v1), L, ab_RR, n, nc, ns) res)))))))))) : ab_E w (d + 1) mt_M_years 0 [.ref mx, .int v1, .int v2, .int v3, .null] [] (I, L, ab_RR, n, nc, ns) res := by
  refine ab_aload_n (i := 0) d_M_years_0 rfl rfl ?_
  refine ab_iconst (v := 0) d_M_years_1 rfl ?_
  refine ab_putI (ci := 11) (k := 1) d_M_years_2 v_1369 rfl (by decide) (by decide) rfl (Or.inl rfl) rfl rfl ?_
  refine ab_iload_n (i := 3) d_M_years_5 rfl rfl ?_
  refine ab_iconst (v := 0) d_M_years_6 rfl ?_
  refine ab_iconst (v := 2) d_M_years_7 rfl ?_
  by_cases c2 : v3 < 0
  · have h := h.1 c2
    refine ab_callS (me2 := mt_M_isIn) (as := [.int v3, .int 0, .int 2]) (st := []) (rv := (some (.int 0))) (M2 := ((ab_up I mx 1 0), L, ab_RR, n, nc, ns)) d_M_years_8 ce_M_isIn ⟨v_1753, Or.inl v_1752⟩ (Nat.le_of_ble_eq_true rfl) (cx_M_isIn_0 v3 0 2 hT c2) (Nat.le_refl _) (Nat.le_refl _) hc hs (fun j h9 => by cases h9) (fun _ _ => rfl) ?_
    show ab_E w (d + 1) mt_M_years 11 [.ref mx, .int v1, .int v2, .int v3, .null] [.int 0] ((ab_up I mx 1 0), L, ab_RR, n, nc, ns) res
    refine ab_if_ne (tgt := 20) d_M_years_11 (by decide) (fun c9 => absurd (show (0 : Int32) = 0 from by decide) c9) (fun _ => ?_)
    refine ab_aload_n (i := 0) d_M_years_14 rfl rfl ?_
    refine ab_iconst (v := 1) d_M_years_15 rfl ?_
    refine ab_callV (me2 := mt_M_fail) (b := mx) (as := [.int 1]) (st := []) (rv := (some (.int 0))) (M2 := ((ab_up (ab_up I mx 1 0) mx 1 1), L, ab_RR, n, nc, ns)) d_M_years_16 ce_M_fail v_1562 v_1564 v_66 (by decide) rfl (Nat.le_of_ble_eq_true rfl) (cx_M_fail_0 1 hT) (Nat.le_refl _) (Nat.le_refl _) hc hs (fun j h9 => by cases h9) (fun _ _ => rfl) ?_
    show ab_E w (d + 1) mt_M_years 19 [.ref mx, .int v1, .int v2, .int v3, .null] [.int 0] ((ab_up (ab_up I mx 1 0) mx 1 1), L, ab_RR, n, nc, ns) res
    exact ab_iret (ty := .int) d_M_years_19 rfl rfl h
  · have h := h.2 c2
    by_cases c5 : 2 < v3
    · have h := h.1 c5
      refine ab_callS (me2 := mt_M_isIn) (as := [.int v3, .int 0, .int 2]) (st := []) (rv := (some (.int 0))) (M2 := ((ab_up I mx 1 0), L, ab_RR, n, nc, ns)) d_M_years_8 ce_M_isIn ⟨v_1753, Or.inl v_1752⟩ (Nat.le_of_ble_eq_true rfl) (cx_M_isIn_1 v3 0 2 hT c2 c5) (Nat.le_refl _) (Nat.le_refl _) hc hs (fun j h9 => by cases h9) (fun _ _ => rfl) ?_
      show ab_E w (d + 1) mt_M_years 11 [.ref mx, .int v1, .int v2, .int v3, .null] [.int 0] ((ab_up I mx 1 0), L, ab_RR, n, nc, ns) res
      refine ab_if_ne (tgt := 20) d_M_years_11 (by decide) (fun c9 => absurd (show (0 : Int32) = 0 from by decide) c9) (fun _ => ?_)
      refine ab_aload_n (i := 0) d_M_years_14 rfl rfl ?_
      refine ab_iconst (v := 1) d_M_years_15 rfl ?_
      refine ab_callV (me2 := mt_M_fail) (b := mx) (as := [.int 1]) (st := []) (rv := (some (.int 0))) (M2 := ((ab_up (ab_up I mx 1 0) mx 1 1), L, ab_RR, n, nc, ns)) d_M_years_16 ce_M_fail v_1562 v_1564 v_66 (by decide) rfl (Nat.le_of_ble_eq_true rfl) (cx_M_fail_0 1 hT) (Nat.le_refl _) (Nat.le_refl _) hc hs (fun j h9 => by cases h9) (fun _ _ => rfl) ?_
      show ab_E w (d + 1) mt_M_years 19 [.ref mx, .int v1, .int v2, .int v3, .null] [.int 0] ((ab_up (ab_up I mx 1 0) mx 1 1), L, ab_RR, n, nc, ns) res
      exact ab_iret (ty := .int) d_M_years_19 rfl rfl h
    · have h := h.2 c5
      refine ab_callS (me2 := mt_M_isIn) (as := [.int v3, .int 0, .int 2]) (st := []) (rv := (some (.int 1))) (M2 := ((ab_up I mx 1 0), L, ab_RR, n, nc, ns)) d_M_years_8 ce_M_isIn ⟨v_1753, Or.inl v_1752⟩ (Nat.le_of_ble_eq_true rfl) (cx_M_isIn_2 v3 0 2 hT c2 c5) (Nat.le_refl _) (Nat.le_refl _) hc hs (fun j h9 => by cases h9) (fun _ _ => rfl) ?_
      show ab_E w (d + 1) mt_M_years 11 [.ref mx, .int v1, .int v2, .int v3, .null] [.int 1] ((ab_up I mx 1 0), L, ab_RR, n, nc, ns) res
      refine ab_if_ne (tgt := 20) d_M_years_11 (by decide) (fun _ => ?_) (fun c9 => absurd c9 (show ¬ (1 : Int32) = 0 from by decide))
      refine ab_iload_n (i := 2) d_M_years_20 rfl rfl ?_
      refine ab_iconst (v := 0) d_M_years_21 rfl ?_
      refine ab_bipush (v := 60) d_M_years_22 rfl ?_
      by_cases c9 : v2 < 0
      · have h := h.1 c9
        refine ab_callS (me2 := mt_M_isIn) (as := [.int v2, .int 0, .int 60]) (st := []) (rv := (some (.int 0))) (M2 := ((ab_up I mx 1 0), L, ab_RR, n, nc, ns)) d_M_years_24 ce_M_isIn ⟨v_1753, Or.inl v_1752⟩ (Nat.le_of_ble_eq_true rfl) (cx_M_isIn_0 v2 0 60 hT c9) (Nat.le_refl _) (Nat.le_refl _) hc hs (fun j h9 => by cases h9) (fun _ _ => rfl) ?_
        show ab_E w (d + 1) mt_M_years 27 [.ref mx, .int v1, .int v2, .int v3, .null] [.int 0] ((ab_up I mx 1 0), L, ab_RR, n, nc, ns) res
        refine ab_if_ne (tgt := 36) d_M_years_27 (by decide) (fun c9 => absurd (show (0 : Int32) = 0 from by decide) c9) (fun _ => ?_)
        refine ab_aload_n (i := 0) d_M_years_30 rfl rfl ?_
        refine ab_iconst (v := 2) d_M_years_31 rfl ?_
        refine ab_callV (me2 := mt_M_fail) (b := mx) (as := [.int 2]) (st := []) (rv := (some (.int 0))) (M2 := ((ab_up (ab_up I mx 1 0) mx 1 2), L, ab_RR, n, nc, ns)) d_M_years_32 ce_M_fail v_1562 v_1564 v_66 (by decide) rfl (Nat.le_of_ble_eq_true rfl) (cx_M_fail_0 2 hT) (Nat.le_refl _) (Nat.le_refl _) hc hs (fun j h9 => by cases h9) (fun _ _ => rfl) ?_
        show ab_E w (d + 1) mt_M_years 35 [.ref mx, .int v1, .int v2, .int v3, .null] [.int 0] ((ab_up (ab_up I mx 1 0) mx 1 2), L, ab_RR, n, nc, ns) res
        exact ab_iret (ty := .int) d_M_years_35 rfl rfl h
      · have h := h.2 c9
        by_cases c12 : 60 < v2
        · have h := h.1 c12
          refine ab_callS (me2 := mt_M_isIn) (as := [.int v2, .int 0, .int 60]) (st := []) (rv := (some (.int 0))) (M2 := ((ab_up I mx 1 0), L, ab_RR, n, nc, ns)) d_M_years_24 ce_M_isIn ⟨v_1753, Or.inl v_1752⟩ (Nat.le_of_ble_eq_true rfl) (cx_M_isIn_1 v2 0 60 hT c9 c12) (Nat.le_refl _) (Nat.le_refl _) hc hs (fun j h9 => by cases h9) (fun _ _ => rfl) ?_
          show ab_E w (d + 1) mt_M_years 27 [.ref mx, .int v1, .int v2, .int v3, .null] [.int 0] ((ab_up I mx 1 0), L, ab_RR, n, nc, ns) res
          refine ab_if_ne (tgt := 36) d_M_years_27 (by decide) (fun c9 => absurd (show (0 : Int32) = 0 from by decide) c9) (fun _ => ?_)
          refine ab_aload_n (i := 0) d_M_years_30 rfl rfl ?_
          refine ab_iconst (v := 2) d_M_years_31 rfl ?_
          refine ab_callV (me2 := mt_M_fail) (b := mx) (as := [.int 2]) (st := []) (rv := (some (.int 0))) (M2 := ((ab_up (ab_up I mx 1 0) mx 1 2), L, ab_RR, n, nc, ns)) d_M_years_32 ce_M_fail v_1562 v_1564 v_66 (by decide) rfl (Nat.le_of_ble_eq_true rfl) (cx_M_fail_0 2 hT) (Nat.le_refl _) (Nat.le_refl _) hc hs (fun j h9 => by cases h9) (fun _ _ => rfl) ?_
          show ab_E w (d + 1) mt_M_years 35 [.ref mx, .int v1, .int v2, .int v3, .null] [.int 0] ((ab_up (ab_up I mx 1 0) mx 1 2), L, ab_RR, n, nc, ns) res
          exact ab_iret (ty := .int) d_M_years_35 rfl rfl h
        · have h := h.2 c12
          refine ab_callS (me2 := mt_M_isIn) (as := [.int v2, .int 0, .int 60]) (st := []) (rv := (some (.int 1))) (M2 := ((ab_up I mx 1 0), L, ab_RR, n, nc, ns)) d_M_years_24 ce_M_isIn ⟨v_1753, Or.inl v_1752⟩ (Nat.le_of_ble_eq_true rfl) (cx_M_isIn_2 v2 0 60 hT c9 c12) (Nat.le_refl _) (Nat.le_refl _) hc hs (fun j h9 => by cases h9) (fun _ _ => rfl) ?_
          show ab_E w (d + 1) mt_M_years 27 [.ref mx, .int v1, .int v2, .int v3, .null] [.int 1] ((ab_up I mx 1 0), L, ab_RR, n, nc, ns) res
          refine ab_if_ne (tgt := 36) d_M_years_27 (by decide) (fun _ => ?_) (fun c9 => absurd c9 (show ¬ (1 : Int32) = 0 from by decide))
          refine ab_aload_n (i := 0) d_M_years_36 rfl rfl ?_
          refine ab_getR (ci := 11) (k := 51) (j := mx_rowThen) d_M_years_37 v_1419 rfl (by decide) (by decide) rfl r_mx_51 ?_
          refine ab_aload_n (i := 0) d_M_years_40 rfl rfl ?_
          refine ab_getR (ci := 11) (k := 4) (j := mx_now) d_M_years_41 v_1372 rfl (by decide) (by decide) rfl r_mx_4 ?_
          obtain ⟨I16, hC, h⟩ := h
          refine ab_callS (me2 := mt_M_copyTo) (as := [.ref mx_rowThen, .ref mx_now]) (st := []) (rv := none) (M2 := (I16, L, ab_RR, n, nc, ns)) d_M_years_44 ce_M_copyTo ⟨v_1625, Or.inl v_1624⟩ (Nat.le_of_ble_eq_true rfl) hC (Nat.le_refl _) (Nat.le_refl _) hc hs (fun j h9 => by cases h9) (fun _ _ => rfl) ?_
          show ab_E w (d + 1) mt_M_years 47 [.ref mx, .int v1, .int v2, .int v3, .null] [] (I16, L, ab_RR, n, nc, ns) res
          refine ab_aload_n (i := 0) d_M_years_47 rfl rfl ?_
          refine ab_iload_n (i := 1) d_M_years_48 rfl rfl ?_
          refine ab_putI (ci := 11) (k := 50) d_M_years_49 v_1418 rfl (by decide) (by decide) rfl (Or.inl rfl) rfl rfl ?_
          refine ab_iconst (v := 0) d_M_years_52 rfl ?_
          refine ab_istore (i := 4) d_M_years_53 (by decide) (Or.inr rfl) ?_
          exact h
theorem r_M_years_55 {w : ab_Wd} {d n nc ns : Nat} {I : Nat → Nat → Int32} {L : Nat → Nat → Int64} {res : ab_Re} (hT : w.1.stackTraces = false) (v1 : Int32) (v2 : Int32) (v3 : Int32) (v4 : Int32) (hc : nc ≤ res.2.2.2.2.2.1) (hs : ns ≤ res.2.2.2.2.2.2)
    (h : ((v2 ≤ v4 → ((¬ v3 = 0 → ((¬ v3 = 1 → (∃ (r4 : Int32) (I5 : Nat → Nat → Int32), ab_C w d mt_M_piecesNow [.ref mx] (I, L, ab_RR, n, nc, ns) (.inl (some (.int r4)), (I5, L, ab_RR, n, nc, ns)) ∧ ∃ (I7 : Nat → Nat → Int32), ab_C w d mt_M_copyTo [.ref mx_now, .ref mx_rowThen] (I5, L, ab_RR, n, nc, ns) (.inl none, (I7, L, ab_RR, n, nc, ns)) ∧ res = (.inl (some (.int r4)), (I7, L, ab_RR, n, nc, ns)))) ∧ (v3 = 1 → (∃ (I9 : Nat → Nat → Int32), ab_C w d mt_M_copyTo [.ref mx_now, .ref mx_rowThen] (I, L, ab_RR, n, nc, ns) (.inl none, (I9, L, ab_RR, n, nc, ns)) ∧ res = (.inl (some (.int ((I mx_now 2) - (I mx_rowThen 2)))), (I9, L, ab_RR, n, nc, ns)))))) ∧ (v3 = 0 → (∃ (r10 : Int32) (I11 : Nat → Nat → Int32), ab_C w d mt_M_totalNow [.ref mx] (I, L, ab_RR, n, nc, ns) (.inl (some (.int r10)), (I11, L, ab_RR, n, nc, ns)) ∧ ∃ (I13 : Nat → Nat → Int32), ab_C w d mt_M_copyTo [.ref mx_now, .ref mx_rowThen] (I11, L, ab_RR, n, nc, ns) (.inl none, (I13, L, ab_RR, n, nc, ns)) ∧ res = (.inl (some (.int r10)), (I13, L, ab_RR, n, nc, ns)))))) ∧ (¬ v2 ≤ v4 → (∃ (I15 : Nat → Nat → Int32), ab_C w d mt_M_happens [.ref mx] (I, L, ab_RR, n, nc, ns) (.inl none, (I15, L, ab_RR, n, nc, ns)) ∧ ab_E w (d + 1) mt_M_years 55 [.ref mx, .int v1, .int v2, .int v3, .int (v4 + 1)] [] (I15, L, ab_RR, n, nc, ns) res)))) : ab_E w (d + 1) mt_M_years 55 [.ref mx, .int v1, .int v2, .int v3, .int v4] [] (I, L, ab_RR, n, nc, ns) res := by
  refine ab_iload (i := 4) d_M_years_55 rfl ?_
  refine ab_iload_n (i := 2) d_M_years_57 rfl rfl ?_
  refine ab_icmp_ge (tgt := 71) d_M_years_58 (by decide) (fun c1 => ?_) (fun c1 => ?_)
  · have h := h.1 c1
    refine ab_iload_n (i := 3) d_M_years_71 rfl rfl ?_
    refine ab_if_ne (tgt := 82) d_M_years_72 (by decide) (fun c2 => ?_) (fun c2 => ?_)
    · have h := h.1 c2
      refine ab_iload_n (i := 3) d_M_years_82 rfl rfl ?_
      refine ab_iconst (v := 1) d_M_years_83 rfl ?_
      refine ab_icmp_ne (tgt := 103) d_M_years_84 (by decide) (fun c3 => ?_) (fun c3 => ?_)
      · have h := h.1 c3
        refine ab_aload_n (i := 0) d_M_years_103 rfl rfl ?_
        obtain ⟨r4, I5, hC, h⟩ := h
        refine ab_callV (me2 := mt_M_piecesNow) (b := mx) (as := []) (st := []) (rv := (some (.int r4))) (M2 := (I5, L, ab_RR, n, nc, ns)) d_M_years_104 ce_M_piecesNow v_1667 v_1669 v_86 (by decide) rfl (Nat.le_of_ble_eq_true rfl) hC (Nat.le_refl _) (Nat.le_refl _) hc hs (fun j h9 => by cases h9) (fun _ _ => rfl) ?_
        show ab_E w (d + 1) mt_M_years 107 [.ref mx, .int v1, .int v2, .int v3, .int v4] [.int r4] (I5, L, ab_RR, n, nc, ns) res
        refine ab_istore (i := 4) d_M_years_107 (by decide) (Or.inr rfl) ?_
        refine ab_aload_n (i := 0) d_M_years_109 rfl rfl ?_
        refine ab_getR (ci := 11) (k := 4) (j := mx_now) d_M_years_110 v_1372 rfl (by decide) (by decide) rfl r_mx_4 ?_
        refine ab_aload_n (i := 0) d_M_years_113 rfl rfl ?_
        refine ab_getR (ci := 11) (k := 51) (j := mx_rowThen) d_M_years_114 v_1419 rfl (by decide) (by decide) rfl r_mx_51 ?_
        obtain ⟨I7, hC, h⟩ := h
        refine ab_callS (me2 := mt_M_copyTo) (as := [.ref mx_now, .ref mx_rowThen]) (st := []) (rv := none) (M2 := (I7, L, ab_RR, n, nc, ns)) d_M_years_117 ce_M_copyTo ⟨v_1625, Or.inl v_1624⟩ (Nat.le_of_ble_eq_true rfl) hC (Nat.le_refl _) (Nat.le_refl _) hc hs (fun j h9 => by cases h9) (fun _ _ => rfl) ?_
        show ab_E w (d + 1) mt_M_years 120 [.ref mx, .int v1, .int v2, .int v3, .int r4] [] (I7, L, ab_RR, n, nc, ns) res
        refine ab_iload (i := 4) d_M_years_120 rfl ?_
        exact ab_iret (ty := .int) d_M_years_122 rfl rfl h
      · have h := h.2 c3
        refine ab_aload_n (i := 0) d_M_years_87 rfl rfl ?_
        refine ab_getR (ci := 11) (k := 4) (j := mx_now) d_M_years_88 v_1372 rfl (by decide) (by decide) rfl r_mx_4 ?_
        refine ab_iconst (v := 2) d_M_years_91 rfl ?_
        refine ab_iald d_M_years_92 rfl rfl (by unfold vp_in; decide) ?_
        refine ab_aload_n (i := 0) d_M_years_93 rfl rfl ?_
        refine ab_getR (ci := 11) (k := 51) (j := mx_rowThen) d_M_years_94 v_1419 rfl (by decide) (by decide) rfl r_mx_51 ?_
        refine ab_iconst (v := 2) d_M_years_97 rfl ?_
        refine ab_iald d_M_years_98 rfl rfl (by unfold vp_in; decide) ?_
        refine ab_isub d_M_years_99 ?_
        refine ab_goto (tgt := 107) d_M_years_100 (by decide) ?_
        refine ab_istore (i := 4) d_M_years_107 (by decide) (Or.inr rfl) ?_
        refine ab_aload_n (i := 0) d_M_years_109 rfl rfl ?_
        refine ab_getR (ci := 11) (k := 4) (j := mx_now) d_M_years_110 v_1372 rfl (by decide) (by decide) rfl r_mx_4 ?_
        refine ab_aload_n (i := 0) d_M_years_113 rfl rfl ?_
        refine ab_getR (ci := 11) (k := 51) (j := mx_rowThen) d_M_years_114 v_1419 rfl (by decide) (by decide) rfl r_mx_51 ?_
        obtain ⟨I9, hC, h⟩ := h
        refine ab_callS (me2 := mt_M_copyTo) (as := [.ref mx_now, .ref mx_rowThen]) (st := []) (rv := none) (M2 := (I9, L, ab_RR, n, nc, ns)) d_M_years_117 ce_M_copyTo ⟨v_1625, Or.inl v_1624⟩ (Nat.le_of_ble_eq_true rfl) hC (Nat.le_refl _) (Nat.le_refl _) hc hs (fun j h9 => by cases h9) (fun _ _ => rfl) ?_
        show ab_E w (d + 1) mt_M_years 120 [.ref mx, .int v1, .int v2, .int v3, .int ((I mx_now 2) - (I mx_rowThen 2))] [] (I9, L, ab_RR, n, nc, ns) res
        refine ab_iload (i := 4) d_M_years_120 rfl ?_
        exact ab_iret (ty := .int) d_M_years_122 rfl rfl h
    · have h := h.2 c2
      refine ab_aload_n (i := 0) d_M_years_75 rfl rfl ?_
      obtain ⟨r10, I11, hC, h⟩ := h
      refine ab_callV (me2 := mt_M_totalNow) (b := mx) (as := []) (st := []) (rv := (some (.int r10))) (M2 := (I11, L, ab_RR, n, nc, ns)) d_M_years_76 ce_M_totalNow v_1663 v_1665 v_85 (by decide) rfl (Nat.le_of_ble_eq_true rfl) hC (Nat.le_refl _) (Nat.le_refl _) hc hs (fun j h9 => by cases h9) (fun _ _ => rfl) ?_
      show ab_E w (d + 1) mt_M_years 79 [.ref mx, .int v1, .int v2, .int v3, .int v4] [.int r10] (I11, L, ab_RR, n, nc, ns) res
      refine ab_goto (tgt := 107) d_M_years_79 (by decide) ?_
      refine ab_istore (i := 4) d_M_years_107 (by decide) (Or.inr rfl) ?_
      refine ab_aload_n (i := 0) d_M_years_109 rfl rfl ?_
      refine ab_getR (ci := 11) (k := 4) (j := mx_now) d_M_years_110 v_1372 rfl (by decide) (by decide) rfl r_mx_4 ?_
      refine ab_aload_n (i := 0) d_M_years_113 rfl rfl ?_
      refine ab_getR (ci := 11) (k := 51) (j := mx_rowThen) d_M_years_114 v_1419 rfl (by decide) (by decide) rfl r_mx_51 ?_
      obtain ⟨I13, hC, h⟩ := h
      refine ab_callS (me2 := mt_M_copyTo) (as := [.ref mx_now, .ref mx_rowThen]) (st := []) (rv := none) (M2 := (I13, L, ab_RR, n, nc, ns)) d_M_years_117 ce_M_copyTo ⟨v_1625, Or.inl v_1624⟩ (Nat.le_of_ble_eq_true rfl) hC (Nat.le_refl _) (Nat.le_refl _) hc hs (fun j h9 => by cases h9) (fun _ _ => rfl) ?_
      show ab_E w (d + 1) mt_M_years 120 [.ref mx, .int v1, .int v2, .int v3, .int r10] [] (I13, L, ab_RR, n, nc, ns) res
      refine ab_iload (i := 4) d_M_years_120 rfl ?_
      exact ab_iret (ty := .int) d_M_years_122 rfl rfl h
  · have h := h.2 c1
    refine ab_aload_n (i := 0) d_M_years_61 rfl rfl ?_
    obtain ⟨I15, hC, h⟩ := h
    refine ab_callV (me2 := mt_M_happens) (b := mx) (as := []) (st := []) (rv := none) (M2 := (I15, L, ab_RR, n, nc, ns)) d_M_years_62 ce_M_happens v_1980 v_1982 v_137 (by decide) rfl (Nat.le_of_ble_eq_true rfl) hC (Nat.le_refl _) (Nat.le_refl _) hc hs (fun j h9 => by cases h9) (fun _ _ => rfl) ?_
    show ab_E w (d + 1) mt_M_years 65 [.ref mx, .int v1, .int v2, .int v3, .int v4] [] (I15, L, ab_RR, n, nc, ns) res
    refine ab_iinc (i := 4) (v := (v4 + 1)) d_M_years_65 rfl rfl (by decide) (Or.inr rfl) ?_
    refine ab_goto (tgt := 55) d_M_years_68 (by decide) ?_
    exact h
theorem r_M_image_0 {w : ab_Wd} {d n nc ns : Nat} {I : Nat → Nat → Int32} {L : Nat → Nat → Int64} {res : ab_Re} (hT : w.1.stackTraces = false)  (hc : nc ≤ res.2.2.2.2.2.1) (hs : ns ≤ res.2.2.2.2.2.2)
    (h : ∃ (I2 : Nat → Nat → Int32), ab_C w d mt_M_copyTo [.ref mx_imageRow, .ref mx_now] ((ab_up (ab_up (ab_up (ab_up I mx 1 0) mx 52 1) mx 53 (I mx 41)) mx 54 (I mx 43)), L, ab_RR, n, nc, ns) (.inl none, (I2, L, ab_RR, n, nc, ns)) ∧ ∃ (I4 : Nat → Nat → Int32), ab_C w d mt_M_copyTo [.ref mx_pastThen, .ref mx_past] (I2, L, ab_RR, n, nc, ns) (.inl none, (I4, L, ab_RR, n, nc, ns)) ∧ ∃ (I6 : Nat → Nat → Int32), ab_C w d mt_M_copyTo [.ref mx_notedCableThen, .ref mx_notedCable] (I4, L, ab_RR, n, nc, ns) (.inl none, (I6, L, ab_RR, n, nc, ns)) ∧ ∃ (I8 : Nat → Nat → Int32), ab_C w d mt_M_copyTo [.ref mx_notedInThen, .ref mx_notedIn] (I6, L, ab_RR, n, nc, ns) (.inl none, (I8, L, ab_RR, n, nc, ns)) ∧ ∃ (I10 : Nat → Nat → Int32), ab_C w d mt_M_copyTo [.ref mx_statusThen, .ref mx_status] (I8, L, ab_RR, n, nc, ns) (.inl none, (I10, L, ab_RR, n, nc, ns)) ∧ res = (.inl none, (I10, L, ab_RR, n, nc, ns))) : ab_E w (d + 1) mt_M_image 0 [.ref mx] [] (I, L, ab_RR, n, nc, ns) res := by
  refine ab_aload_n (i := 0) d_M_image_0 rfl rfl ?_
  refine ab_iconst (v := 0) d_M_image_1 rfl ?_
  refine ab_putI (ci := 11) (k := 1) d_M_image_2 v_1369 rfl (by decide) (by decide) rfl (Or.inl rfl) rfl rfl ?_
  refine ab_aload_n (i := 0) d_M_image_5 rfl rfl ?_
  refine ab_iconst (v := 1) d_M_image_6 rfl ?_
  refine ab_putI (ci := 11) (k := 52) d_M_image_7 v_1420 rfl (by decide) (by decide) rfl (Or.inl rfl) rfl rfl ?_
  refine ab_aload_n (i := 0) d_M_image_10 rfl rfl ?_
  refine ab_aload_n (i := 0) d_M_image_11 rfl rfl ?_
  refine ab_getI (ci := 11) (k := 41) d_M_image_12 v_1409 rfl (by decide) (by decide) rfl ?_
  refine ab_putI (ci := 11) (k := 53) d_M_image_15 v_1421 rfl (by decide) (by decide) rfl (Or.inl rfl) rfl rfl ?_
  refine ab_aload_n (i := 0) d_M_image_18 rfl rfl ?_
  refine ab_aload_n (i := 0) d_M_image_19 rfl rfl ?_
  refine ab_getI (ci := 11) (k := 43) d_M_image_20 v_1411 rfl (by decide) (by decide) rfl ?_
  refine ab_putI (ci := 11) (k := 54) d_M_image_23 v_1422 rfl (by decide) (by decide) rfl (Or.inl rfl) rfl rfl ?_
  refine ab_aload_n (i := 0) d_M_image_26 rfl rfl ?_
  refine ab_getR (ci := 11) (k := 55) (j := mx_imageRow) d_M_image_27 v_1423 rfl (by decide) (by decide) rfl r_mx_55 ?_
  refine ab_aload_n (i := 0) d_M_image_30 rfl rfl ?_
  refine ab_getR (ci := 11) (k := 4) (j := mx_now) d_M_image_31 v_1372 rfl (by decide) (by decide) rfl r_mx_4 ?_
  obtain ⟨I2, hC, h⟩ := h
  refine ab_callS (me2 := mt_M_copyTo) (as := [.ref mx_imageRow, .ref mx_now]) (st := []) (rv := none) (M2 := (I2, L, ab_RR, n, nc, ns)) d_M_image_34 ce_M_copyTo ⟨v_1625, Or.inl v_1624⟩ (Nat.le_of_ble_eq_true rfl) hC (Nat.le_refl _) (Nat.le_refl _) hc hs (fun j h9 => by cases h9) (fun _ _ => rfl) ?_
  show ab_E w (d + 1) mt_M_image 37 [.ref mx] [] (I2, L, ab_RR, n, nc, ns) res
  refine ab_aload_n (i := 0) d_M_image_37 rfl rfl ?_
  refine ab_getR (ci := 11) (k := 56) (j := mx_pastThen) d_M_image_38 v_1424 rfl (by decide) (by decide) rfl r_mx_56 ?_
  refine ab_aload_n (i := 0) d_M_image_41 rfl rfl ?_
  refine ab_getR (ci := 11) (k := 42) (j := mx_past) d_M_image_42 v_1410 rfl (by decide) (by decide) rfl r_mx_42 ?_
  obtain ⟨I4, hC, h⟩ := h
  refine ab_callS (me2 := mt_M_copyTo) (as := [.ref mx_pastThen, .ref mx_past]) (st := []) (rv := none) (M2 := (I4, L, ab_RR, n, nc, ns)) d_M_image_45 ce_M_copyTo ⟨v_1625, Or.inl v_1624⟩ (Nat.le_of_ble_eq_true rfl) hC (Nat.le_refl _) (Nat.le_refl _) hc hs (fun j h9 => by cases h9) (fun _ _ => rfl) ?_
  show ab_E w (d + 1) mt_M_image 48 [.ref mx] [] (I4, L, ab_RR, n, nc, ns) res
  refine ab_aload_n (i := 0) d_M_image_48 rfl rfl ?_
  refine ab_getR (ci := 11) (k := 57) (j := mx_notedCableThen) d_M_image_49 v_1425 rfl (by decide) (by decide) rfl r_mx_57 ?_
  refine ab_aload_n (i := 0) d_M_image_52 rfl rfl ?_
  refine ab_getR (ci := 11) (k := 44) (j := mx_notedCable) d_M_image_53 v_1412 rfl (by decide) (by decide) rfl r_mx_44 ?_
  obtain ⟨I6, hC, h⟩ := h
  refine ab_callS (me2 := mt_M_copyTo) (as := [.ref mx_notedCableThen, .ref mx_notedCable]) (st := []) (rv := none) (M2 := (I6, L, ab_RR, n, nc, ns)) d_M_image_56 ce_M_copyTo ⟨v_1625, Or.inl v_1624⟩ (Nat.le_of_ble_eq_true rfl) hC (Nat.le_refl _) (Nat.le_refl _) hc hs (fun j h9 => by cases h9) (fun _ _ => rfl) ?_
  show ab_E w (d + 1) mt_M_image 59 [.ref mx] [] (I6, L, ab_RR, n, nc, ns) res
  refine ab_aload_n (i := 0) d_M_image_59 rfl rfl ?_
  refine ab_getR (ci := 11) (k := 58) (j := mx_notedInThen) d_M_image_60 v_1426 rfl (by decide) (by decide) rfl r_mx_58 ?_
  refine ab_aload_n (i := 0) d_M_image_63 rfl rfl ?_
  refine ab_getR (ci := 11) (k := 45) (j := mx_notedIn) d_M_image_64 v_1413 rfl (by decide) (by decide) rfl r_mx_45 ?_
  obtain ⟨I8, hC, h⟩ := h
  refine ab_callS (me2 := mt_M_copyTo) (as := [.ref mx_notedInThen, .ref mx_notedIn]) (st := []) (rv := none) (M2 := (I8, L, ab_RR, n, nc, ns)) d_M_image_67 ce_M_copyTo ⟨v_1625, Or.inl v_1624⟩ (Nat.le_of_ble_eq_true rfl) hC (Nat.le_refl _) (Nat.le_refl _) hc hs (fun j h9 => by cases h9) (fun _ _ => rfl) ?_
  show ab_E w (d + 1) mt_M_image 70 [.ref mx] [] (I8, L, ab_RR, n, nc, ns) res
  refine ab_aload_n (i := 0) d_M_image_70 rfl rfl ?_
  refine ab_getR (ci := 11) (k := 59) (j := mx_statusThen) d_M_image_71 v_1427 rfl (by decide) (by decide) rfl r_mx_59 ?_
  refine ab_aload_n (i := 0) d_M_image_74 rfl rfl ?_
  refine ab_getR (ci := 11) (k := 6) (j := mx_status) d_M_image_75 v_1374 rfl (by decide) (by decide) rfl r_mx_6 ?_
  obtain ⟨I10, hC, h⟩ := h
  refine ab_callS (me2 := mt_M_copyTo) (as := [.ref mx_statusThen, .ref mx_status]) (st := []) (rv := none) (M2 := (I10, L, ab_RR, n, nc, ns)) d_M_image_78 ce_M_copyTo ⟨v_1625, Or.inl v_1624⟩ (Nat.le_of_ble_eq_true rfl) hC (Nat.le_refl _) (Nat.le_refl _) hc hs (fun j h9 => by cases h9) (fun _ _ => rfl) ?_
  show ab_E w (d + 1) mt_M_image 81 [.ref mx] [] (I10, L, ab_RR, n, nc, ns) res
  exact ab_vret d_M_image_81 rfl h
theorem r_M_restore_0 {w : ab_Wd} {d n nc ns : Nat} {I : Nat → Nat → Int32} {L : Nat → Nat → Int64} {res : ab_Re} (hT : w.1.stackTraces = false)  (hc : nc ≤ res.2.2.2.2.2.1) (hs : ns ≤ res.2.2.2.2.2.2)
    (h : ((¬ (I mx 52) = 0 → (∃ (I3 : Nat → Nat → Int32), ab_C w d mt_M_copyTo [.ref mx_now, .ref mx_imageRow] ((ab_up (ab_up (ab_up I mx 1 0) mx 41 (I mx 53)) mx 43 (I mx 54)), L, ab_RR, n, nc, ns) (.inl none, (I3, L, ab_RR, n, nc, ns)) ∧ ∃ (I5 : Nat → Nat → Int32), ab_C w d mt_M_copyTo [.ref mx_past, .ref mx_pastThen] (I3, L, ab_RR, n, nc, ns) (.inl none, (I5, L, ab_RR, n, nc, ns)) ∧ ∃ (I7 : Nat → Nat → Int32), ab_C w d mt_M_copyTo [.ref mx_notedCable, .ref mx_notedCableThen] (I5, L, ab_RR, n, nc, ns) (.inl none, (I7, L, ab_RR, n, nc, ns)) ∧ ∃ (I9 : Nat → Nat → Int32), ab_C w d mt_M_copyTo [.ref mx_notedIn, .ref mx_notedInThen] (I7, L, ab_RR, n, nc, ns) (.inl none, (I9, L, ab_RR, n, nc, ns)) ∧ ∃ (I11 : Nat → Nat → Int32), ab_C w d mt_M_copyTo [.ref mx_status, .ref mx_statusThen] (I9, L, ab_RR, n, nc, ns) (.inl none, (I11, L, ab_RR, n, nc, ns)) ∧ res = (.inl (some (.int 1)), (I11, L, ab_RR, n, nc, ns)))) ∧ ((I mx 52) = 0 → (res = (.inl (some (.int 0)), ((ab_up I mx 1 0), L, ab_RR, n, nc, ns)))))) : ab_E w (d + 1) mt_M_restore 0 [.ref mx] [] (I, L, ab_RR, n, nc, ns) res := by
  refine ab_aload_n (i := 0) d_M_restore_0 rfl rfl ?_
  refine ab_iconst (v := 0) d_M_restore_1 rfl ?_
  refine ab_putI (ci := 11) (k := 1) d_M_restore_2 v_1369 rfl (by decide) (by decide) rfl (Or.inl rfl) rfl rfl ?_
  refine ab_aload_n (i := 0) d_M_restore_5 rfl rfl ?_
  refine ab_getI (ci := 11) (k := 52) d_M_restore_6 v_1420 rfl (by decide) (by decide) rfl ?_
  refine ab_if_ne (tgt := 14) d_M_restore_9 (by decide) (fun c1 => ?_) (fun c1 => ?_)
  · have h := h.1 c1
    refine ab_aload_n (i := 0) d_M_restore_14 rfl rfl ?_
    refine ab_aload_n (i := 0) d_M_restore_15 rfl rfl ?_
    refine ab_getI (ci := 11) (k := 53) d_M_restore_16 v_1421 rfl (by decide) (by decide) rfl ?_
    refine ab_putI (ci := 11) (k := 41) d_M_restore_19 v_1409 rfl (by decide) (by decide) rfl (Or.inl rfl) rfl rfl ?_
    refine ab_aload_n (i := 0) d_M_restore_22 rfl rfl ?_
    refine ab_aload_n (i := 0) d_M_restore_23 rfl rfl ?_
    refine ab_getI (ci := 11) (k := 54) d_M_restore_24 v_1422 rfl (by decide) (by decide) rfl ?_
    refine ab_putI (ci := 11) (k := 43) d_M_restore_27 v_1411 rfl (by decide) (by decide) rfl (Or.inl rfl) rfl rfl ?_
    refine ab_aload_n (i := 0) d_M_restore_30 rfl rfl ?_
    refine ab_getR (ci := 11) (k := 4) (j := mx_now) d_M_restore_31 v_1372 rfl (by decide) (by decide) rfl r_mx_4 ?_
    refine ab_aload_n (i := 0) d_M_restore_34 rfl rfl ?_
    refine ab_getR (ci := 11) (k := 55) (j := mx_imageRow) d_M_restore_35 v_1423 rfl (by decide) (by decide) rfl r_mx_55 ?_
    obtain ⟨I3, hC, h⟩ := h
    refine ab_callS (me2 := mt_M_copyTo) (as := [.ref mx_now, .ref mx_imageRow]) (st := []) (rv := none) (M2 := (I3, L, ab_RR, n, nc, ns)) d_M_restore_38 ce_M_copyTo ⟨v_1625, Or.inl v_1624⟩ (Nat.le_of_ble_eq_true rfl) hC (Nat.le_refl _) (Nat.le_refl _) hc hs (fun j h9 => by cases h9) (fun _ _ => rfl) ?_
    show ab_E w (d + 1) mt_M_restore 41 [.ref mx] [] (I3, L, ab_RR, n, nc, ns) res
    refine ab_aload_n (i := 0) d_M_restore_41 rfl rfl ?_
    refine ab_getR (ci := 11) (k := 42) (j := mx_past) d_M_restore_42 v_1410 rfl (by decide) (by decide) rfl r_mx_42 ?_
    refine ab_aload_n (i := 0) d_M_restore_45 rfl rfl ?_
    refine ab_getR (ci := 11) (k := 56) (j := mx_pastThen) d_M_restore_46 v_1424 rfl (by decide) (by decide) rfl r_mx_56 ?_
    obtain ⟨I5, hC, h⟩ := h
    refine ab_callS (me2 := mt_M_copyTo) (as := [.ref mx_past, .ref mx_pastThen]) (st := []) (rv := none) (M2 := (I5, L, ab_RR, n, nc, ns)) d_M_restore_49 ce_M_copyTo ⟨v_1625, Or.inl v_1624⟩ (Nat.le_of_ble_eq_true rfl) hC (Nat.le_refl _) (Nat.le_refl _) hc hs (fun j h9 => by cases h9) (fun _ _ => rfl) ?_
    show ab_E w (d + 1) mt_M_restore 52 [.ref mx] [] (I5, L, ab_RR, n, nc, ns) res
    refine ab_aload_n (i := 0) d_M_restore_52 rfl rfl ?_
    refine ab_getR (ci := 11) (k := 44) (j := mx_notedCable) d_M_restore_53 v_1412 rfl (by decide) (by decide) rfl r_mx_44 ?_
    refine ab_aload_n (i := 0) d_M_restore_56 rfl rfl ?_
    refine ab_getR (ci := 11) (k := 57) (j := mx_notedCableThen) d_M_restore_57 v_1425 rfl (by decide) (by decide) rfl r_mx_57 ?_
    obtain ⟨I7, hC, h⟩ := h
    refine ab_callS (me2 := mt_M_copyTo) (as := [.ref mx_notedCable, .ref mx_notedCableThen]) (st := []) (rv := none) (M2 := (I7, L, ab_RR, n, nc, ns)) d_M_restore_60 ce_M_copyTo ⟨v_1625, Or.inl v_1624⟩ (Nat.le_of_ble_eq_true rfl) hC (Nat.le_refl _) (Nat.le_refl _) hc hs (fun j h9 => by cases h9) (fun _ _ => rfl) ?_
    show ab_E w (d + 1) mt_M_restore 63 [.ref mx] [] (I7, L, ab_RR, n, nc, ns) res
    refine ab_aload_n (i := 0) d_M_restore_63 rfl rfl ?_
    refine ab_getR (ci := 11) (k := 45) (j := mx_notedIn) d_M_restore_64 v_1413 rfl (by decide) (by decide) rfl r_mx_45 ?_
    refine ab_aload_n (i := 0) d_M_restore_67 rfl rfl ?_
    refine ab_getR (ci := 11) (k := 58) (j := mx_notedInThen) d_M_restore_68 v_1426 rfl (by decide) (by decide) rfl r_mx_58 ?_
    obtain ⟨I9, hC, h⟩ := h
    refine ab_callS (me2 := mt_M_copyTo) (as := [.ref mx_notedIn, .ref mx_notedInThen]) (st := []) (rv := none) (M2 := (I9, L, ab_RR, n, nc, ns)) d_M_restore_71 ce_M_copyTo ⟨v_1625, Or.inl v_1624⟩ (Nat.le_of_ble_eq_true rfl) hC (Nat.le_refl _) (Nat.le_refl _) hc hs (fun j h9 => by cases h9) (fun _ _ => rfl) ?_
    show ab_E w (d + 1) mt_M_restore 74 [.ref mx] [] (I9, L, ab_RR, n, nc, ns) res
    refine ab_aload_n (i := 0) d_M_restore_74 rfl rfl ?_
    refine ab_getR (ci := 11) (k := 6) (j := mx_status) d_M_restore_75 v_1374 rfl (by decide) (by decide) rfl r_mx_6 ?_
    refine ab_aload_n (i := 0) d_M_restore_78 rfl rfl ?_
    refine ab_getR (ci := 11) (k := 59) (j := mx_statusThen) d_M_restore_79 v_1427 rfl (by decide) (by decide) rfl r_mx_59 ?_
    obtain ⟨I11, hC, h⟩ := h
    refine ab_callS (me2 := mt_M_copyTo) (as := [.ref mx_status, .ref mx_statusThen]) (st := []) (rv := none) (M2 := (I11, L, ab_RR, n, nc, ns)) d_M_restore_82 ce_M_copyTo ⟨v_1625, Or.inl v_1624⟩ (Nat.le_of_ble_eq_true rfl) hC (Nat.le_refl _) (Nat.le_refl _) hc hs (fun j h9 => by cases h9) (fun _ _ => rfl) ?_
    show ab_E w (d + 1) mt_M_restore 85 [.ref mx] [] (I11, L, ab_RR, n, nc, ns) res
    refine ab_iconst (v := 1) d_M_restore_85 rfl ?_
    exact ab_iret (ty := .boolean) d_M_restore_86 rfl rfl h
  · have h := h.2 c1
    refine ab_iconst (v := 0) d_M_restore_12 rfl ?_
    exact ab_iret (ty := .boolean) d_M_restore_13 rfl rfl h
theorem cx_Cables_clear_0 {w : ab_Wd} {d n nc ns : Nat} {I : Nat → Nat → Int32} {L : Nat → Nat → Int64}  (hT : w.1.stackTraces = false)  : ab_C w d mt_Cables_clear [.ref kx_trial] (I, L, ab_RR, n, nc, ns) (.inl none, ((ab_up (ab_up (ab_up I kx_trial 0 4) kx_trial 1 0) kx_trial 2 0), L, ab_RR, n, nc, ns)) := by
  refine ab_C_of (by decide) rfl (Nat.le_of_ble_eq_true rfl) hT ?_
  have hc := Nat.le_refl nc
  have hs := Nat.le_refl ns
  refine ab_aload_n (i := 0) d_Cables_clear_0 rfl rfl ?_
  refine ab_iconst (v := 4) d_Cables_clear_1 rfl ?_
  refine ab_putI (ci := 1) (k := 0) d_Cables_clear_2 v_185 rfl (by decide) (by decide) rfl (Or.inl rfl) rfl rfl ?_
  refine ab_aload_n (i := 0) d_Cables_clear_5 rfl rfl ?_
  refine ab_iconst (v := 0) d_Cables_clear_6 rfl ?_
  refine ab_putI (ci := 1) (k := 1) d_Cables_clear_7 v_192 rfl (by decide) (by decide) rfl (Or.inl rfl) rfl rfl ?_
  refine ab_aload_n (i := 0) d_Cables_clear_10 rfl rfl ?_
  refine ab_iconst (v := 0) d_Cables_clear_11 rfl ?_
  refine ab_putI (ci := 1) (k := 2) d_Cables_clear_12 v_200 rfl (by decide) (by decide) rfl (Or.inl rfl) rfl rfl ?_
  exact ab_vret d_Cables_clear_15 rfl rfl
theorem r_Reader_readText_0 {w : ab_Wd} {d n nc ns : Nat} {I : Nat → Nat → Int32} {L : Nat → Nat → Int64} {res : ab_Re} (hT : w.1.stackTraces = false)  (hc : nc ≤ res.2.2.2.2.2.1) (hs : ns ≤ res.2.2.2.2.2.2)
    (h : ∃ (I4 : Nat → Nat → Int32), ab_C w d mt_Reader_toNext [.ref kx_reader] ((ab_up (ab_up (ab_up I kx_trial 0 4) kx_trial 1 0) kx_trial 2 0), L, ab_RR, n, nc, ns) (.inl none, (I4, L, ab_RR, n, nc, ns)) ∧ ab_E w (d + 1) mt_Reader_readText 13 [.ref kx_reader, .int 0] [] (I4, L, ab_RR, n, nc, ns) res) : ab_E w (d + 1) mt_Reader_readText 0 [.ref kx_reader, .null] [] (I, L, ab_RR, n, nc, ns) res := by
  refine ab_aload_n (i := 0) d_Reader_readText_0 rfl rfl ?_
  refine ab_getR (ci := 4) (k := 2) (j := kx_trial) d_Reader_readText_1 v_769 rfl (by decide) (by decide) rfl r_kx_reader_2 ?_
  refine ab_callV (me2 := mt_Cables_clear) (b := kx_trial) (as := []) (st := []) (rv := none) (M2 := ((ab_up (ab_up (ab_up I kx_trial 0 4) kx_trial 1 0) kx_trial 2 0), L, ab_RR, n, nc, ns)) d_Reader_readText_4 ce_Cables_clear v_800 v_801 v_802 (by decide) rfl (Nat.le_of_ble_eq_true rfl) (cx_Cables_clear_0  hT) (Nat.le_refl _) (Nat.le_refl _) hc hs (fun j h9 => by cases h9) (fun _ _ => rfl) ?_
  show ab_E w (d + 1) mt_Reader_readText 7 [.ref kx_reader, .null] [] ((ab_up (ab_up (ab_up I kx_trial 0 4) kx_trial 1 0) kx_trial 2 0), L, ab_RR, n, nc, ns) res
  refine ab_aload_n (i := 0) d_Reader_readText_7 rfl rfl ?_
  obtain ⟨I4, hC, h⟩ := h
  refine ab_callV (me2 := mt_Reader_toNext) (b := kx_reader) (as := []) (st := []) (rv := none) (M2 := (I4, L, ab_RR, n, nc, ns)) d_Reader_readText_8 ce_Reader_toNext v_804 v_806 v_14 (by decide) rfl (Nat.le_of_ble_eq_true rfl) hC (Nat.le_refl _) (Nat.le_refl _) hc hs (fun j h9 => by cases h9) (fun _ _ => rfl) ?_
  show ab_E w (d + 1) mt_Reader_readText 11 [.ref kx_reader, .null] [] (I4, L, ab_RR, n, nc, ns) res
  refine ab_iconst (v := 0) d_Reader_readText_11 rfl ?_
  refine ab_istore_n (i := 1) d_Reader_readText_12 rfl (by decide) (Or.inr rfl) ?_
  exact h
theorem r_Reader_readText_13 {w : ab_Wd} {d n nc ns : Nat} {I : Nat → Nat → Int32} {L : Nat → Nat → Int64} {res : ab_Re} (hT : w.1.stackTraces = false) (v1 : Int32) (hc : nc ≤ res.2.2.2.2.2.1) (hs : ns ≤ res.2.2.2.2.2.2)
    (h : ((700 ≤ v1 → (∃ (I3 : Nat → Nat → Int32), ab_C w d mt_Cables_sort [.ref kx_trial] (I, L, ab_RR, n, nc, ns) (.inl none, (I3, L, ab_RR, n, nc, ns)) ∧ res = (.inl (some (.int (I3 kx_reader 7))), (I3, L, ab_RR, n, nc, ns)))) ∧ (¬ 700 ≤ v1 → (((I kx_reader 4) = 0 → (∃ (I6 : Nat → Nat → Int32), ab_C w d mt_Cables_sort [.ref kx_trial] (I, L, ab_RR, n, nc, ns) (.inl none, (I6, L, ab_RR, n, nc, ns)) ∧ res = (.inl (some (.int (I6 kx_reader 7))), (I6, L, ab_RR, n, nc, ns)))) ∧ (¬ (I kx_reader 4) = 0 → ((¬ (I kx_reader 7) = 0 → (∃ (I9 : Nat → Nat → Int32), ab_C w d mt_Cables_sort [.ref kx_trial] (I, L, ab_RR, n, nc, ns) (.inl none, (I9, L, ab_RR, n, nc, ns)) ∧ res = (.inl (some (.int (I9 kx_reader 7))), (I9, L, ab_RR, n, nc, ns)))) ∧ ((I kx_reader 7) = 0 → ((¬ v1 = 0 → (∃ (I12 : Nat → Nat → Int32), ab_C w d mt_Reader_readClause [.ref kx_reader, .int 0] (I, L, ab_RR, n, nc, ns) (.inl none, (I12, L, ab_RR, n, nc, ns)) ∧ ab_E w (d + 1) mt_Reader_readText 13 [.ref kx_reader, .int (v1 + 1)] [] (I12, L, ab_RR, n, nc, ns) res)) ∧ (v1 = 0 → (∃ (I14 : Nat → Nat → Int32), ab_C w d mt_Reader_readClause [.ref kx_reader, .int 1] (I, L, ab_RR, n, nc, ns) (.inl none, (I14, L, ab_RR, n, nc, ns)) ∧ ab_E w (d + 1) mt_Reader_readText 13 [.ref kx_reader, .int (v1 + 1)] [] (I14, L, ab_RR, n, nc, ns) res)))))))))) : ab_E w (d + 1) mt_Reader_readText 13 [.ref kx_reader, .int v1] [] (I, L, ab_RR, n, nc, ns) res := by
  refine ab_iload_n (i := 1) d_Reader_readText_13 rfl rfl ?_
  refine ab_sipush (v := 700) d_Reader_readText_14 rfl ?_
  refine ab_icmp_ge (tgt := 53) d_Reader_readText_17 (by decide) (fun c1 => ?_) (fun c1 => ?_)
  · have h := h.1 c1
    refine ab_aload_n (i := 0) d_Reader_readText_53 rfl rfl ?_
    refine ab_getR (ci := 4) (k := 2) (j := kx_trial) d_Reader_readText_54 v_769 rfl (by decide) (by decide) rfl r_kx_reader_2 ?_
    obtain ⟨I3, hC, h⟩ := h
    refine ab_callV (me2 := mt_Cables_sort) (b := kx_trial) (as := []) (st := []) (rv := none) (M2 := (I3, L, ab_RR, n, nc, ns)) d_Reader_readText_57 ce_Cables_sort v_909 v_592 v_593 (by decide) rfl (Nat.le_of_ble_eq_true rfl) hC (Nat.le_refl _) (Nat.le_refl _) hc hs (fun j h9 => by cases h9) (fun _ _ => rfl) ?_
    show ab_E w (d + 1) mt_Reader_readText 60 [.ref kx_reader, .int v1] [] (I3, L, ab_RR, n, nc, ns) res
    refine ab_aload_n (i := 0) d_Reader_readText_60 rfl rfl ?_
    refine ab_getI (ci := 4) (k := 7) d_Reader_readText_61 v_774 rfl (by decide) (by decide) rfl ?_
    exact ab_iret (ty := .int) d_Reader_readText_64 rfl rfl h
  · have h := h.2 c1
    refine ab_aload_n (i := 0) d_Reader_readText_20 rfl rfl ?_
    refine ab_getI (ci := 4) (k := 4) d_Reader_readText_21 v_771 rfl (by decide) (by decide) rfl ?_
    refine ab_if_eq (tgt := 53) d_Reader_readText_24 (by decide) (fun c4 => ?_) (fun c4 => ?_)
    · have h := h.1 c4
      refine ab_aload_n (i := 0) d_Reader_readText_53 rfl rfl ?_
      refine ab_getR (ci := 4) (k := 2) (j := kx_trial) d_Reader_readText_54 v_769 rfl (by decide) (by decide) rfl r_kx_reader_2 ?_
      obtain ⟨I6, hC, h⟩ := h
      refine ab_callV (me2 := mt_Cables_sort) (b := kx_trial) (as := []) (st := []) (rv := none) (M2 := (I6, L, ab_RR, n, nc, ns)) d_Reader_readText_57 ce_Cables_sort v_909 v_592 v_593 (by decide) rfl (Nat.le_of_ble_eq_true rfl) hC (Nat.le_refl _) (Nat.le_refl _) hc hs (fun j h9 => by cases h9) (fun _ _ => rfl) ?_
      show ab_E w (d + 1) mt_Reader_readText 60 [.ref kx_reader, .int v1] [] (I6, L, ab_RR, n, nc, ns) res
      refine ab_aload_n (i := 0) d_Reader_readText_60 rfl rfl ?_
      refine ab_getI (ci := 4) (k := 7) d_Reader_readText_61 v_774 rfl (by decide) (by decide) rfl ?_
      exact ab_iret (ty := .int) d_Reader_readText_64 rfl rfl h
    · have h := h.2 c4
      refine ab_aload_n (i := 0) d_Reader_readText_27 rfl rfl ?_
      refine ab_getI (ci := 4) (k := 7) d_Reader_readText_28 v_774 rfl (by decide) (by decide) rfl ?_
      refine ab_if_ne (tgt := 53) d_Reader_readText_31 (by decide) (fun c7 => ?_) (fun c7 => ?_)
      · have h := h.1 c7
        refine ab_aload_n (i := 0) d_Reader_readText_53 rfl rfl ?_
        refine ab_getR (ci := 4) (k := 2) (j := kx_trial) d_Reader_readText_54 v_769 rfl (by decide) (by decide) rfl r_kx_reader_2 ?_
        obtain ⟨I9, hC, h⟩ := h
        refine ab_callV (me2 := mt_Cables_sort) (b := kx_trial) (as := []) (st := []) (rv := none) (M2 := (I9, L, ab_RR, n, nc, ns)) d_Reader_readText_57 ce_Cables_sort v_909 v_592 v_593 (by decide) rfl (Nat.le_of_ble_eq_true rfl) hC (Nat.le_refl _) (Nat.le_refl _) hc hs (fun j h9 => by cases h9) (fun _ _ => rfl) ?_
        show ab_E w (d + 1) mt_Reader_readText 60 [.ref kx_reader, .int v1] [] (I9, L, ab_RR, n, nc, ns) res
        refine ab_aload_n (i := 0) d_Reader_readText_60 rfl rfl ?_
        refine ab_getI (ci := 4) (k := 7) d_Reader_readText_61 v_774 rfl (by decide) (by decide) rfl ?_
        exact ab_iret (ty := .int) d_Reader_readText_64 rfl rfl h
      · have h := h.2 c7
        refine ab_aload_n (i := 0) d_Reader_readText_34 rfl rfl ?_
        refine ab_iload_n (i := 1) d_Reader_readText_35 rfl rfl ?_
        refine ab_if_ne (tgt := 43) d_Reader_readText_36 (by decide) (fun c10 => ?_) (fun c10 => ?_)
        · have h := h.1 c10
          refine ab_iconst (v := 0) d_Reader_readText_43 rfl ?_
          obtain ⟨I12, hC, h⟩ := h
          refine ab_callV (me2 := mt_Reader_readClause) (b := kx_reader) (as := [.int 0]) (st := []) (rv := none) (M2 := (I12, L, ab_RR, n, nc, ns)) d_Reader_readText_44 ce_Reader_readClause v_824 v_826 v_19 (by decide) rfl (Nat.le_of_ble_eq_true rfl) hC (Nat.le_refl _) (Nat.le_refl _) hc hs (fun j h9 => by cases h9) (fun _ _ => rfl) ?_
          show ab_E w (d + 1) mt_Reader_readText 47 [.ref kx_reader, .int v1] [] (I12, L, ab_RR, n, nc, ns) res
          refine ab_iinc (i := 1) (v := (v1 + 1)) d_Reader_readText_47 rfl rfl (by decide) (Or.inr rfl) ?_
          refine ab_goto (tgt := 13) d_Reader_readText_50 (by decide) ?_
          exact h
        · have h := h.2 c10
          refine ab_iconst (v := 1) d_Reader_readText_39 rfl ?_
          refine ab_goto (tgt := 44) d_Reader_readText_40 (by decide) ?_
          obtain ⟨I14, hC, h⟩ := h
          refine ab_callV (me2 := mt_Reader_readClause) (b := kx_reader) (as := [.int 1]) (st := []) (rv := none) (M2 := (I14, L, ab_RR, n, nc, ns)) d_Reader_readText_44 ce_Reader_readClause v_824 v_826 v_19 (by decide) rfl (Nat.le_of_ble_eq_true rfl) hC (Nat.le_refl _) (Nat.le_refl _) hc hs (fun j h9 => by cases h9) (fun _ _ => rfl) ?_
          show ab_E w (d + 1) mt_Reader_readText 47 [.ref kx_reader, .int v1] [] (I14, L, ab_RR, n, nc, ns) res
          refine ab_iinc (i := 1) (v := (v1 + 1)) d_Reader_readText_47 rfl rfl (by decide) (Or.inr rfl) ?_
          refine ab_goto (tgt := 13) d_Reader_readText_50 (by decide) ?_
          exact h
theorem cx_Acts_clear_0 {w : ab_Wd} {d n nc ns : Nat} {I : Nat → Nat → Int32} {L : Nat → Nat → Int64}  (hT : w.1.stackTraces = false)  : ab_C w d mt_Acts_clear [.ref kx_now_acts] (I, L, ab_RR, n, nc, ns) (.inl none, ((ab_up (ab_up I kx_now_acts 4 0) kx_now_acts 5 0), L, ab_RR, n, nc, ns)) := by
  refine ab_C_of (by decide) rfl (Nat.le_of_ble_eq_true rfl) hT ?_
  have hc := Nat.le_refl nc
  have hs := Nat.le_refl ns
  refine ab_aload_n (i := 0) d_Acts_clear_0 rfl rfl ?_
  refine ab_iconst (v := 0) d_Acts_clear_1 rfl ?_
  refine ab_putI (ci := 0) (k := 4) d_Acts_clear_2 v_277 rfl (by decide) (by decide) rfl (Or.inl rfl) rfl rfl ?_
  refine ab_aload_n (i := 0) d_Acts_clear_5 rfl rfl ?_
  refine ab_iconst (v := 0) d_Acts_clear_6 rfl ?_
  refine ab_putI (ci := 0) (k := 5) d_Acts_clear_7 v_278 rfl (by decide) (by decide) rfl (Or.inl rfl) rfl rfl ?_
  exact ab_vret d_Acts_clear_10 rfl rfl
theorem r_State_begin_0 {w : ab_Wd} {d n nc ns : Nat} {I : Nat → Nat → Int32} {L : Nat → Nat → Int64} {res : ab_Re} (hT : w.1.stackTraces = false)  (hc : nc ≤ res.2.2.2.2.2.1) (hs : ns ≤ res.2.2.2.2.2.2)
    (h : ∃ (I2 : Nat → Nat → Int32), ab_C w d mt_Cables_copy [.ref kx_now_cables, .ref kx_trial] (I, L, ab_RR, n, nc, ns) (.inl none, (I2, L, ab_RR, n, nc, ns)) ∧ res = (.inl none, ((ab_up (ab_up (ab_up (ab_up (ab_up (ab_up I2 kx_now_swaps 1 0) kx_now_acts 4 0) kx_now_acts 5 0) kx_now 3 0) kx_now 4 0) kx_now 5 0), L, ab_RR, n, nc, ns))) : ab_E w (d + 1) mt_State_begin 0 [.ref kx_now, .ref kx_trial] [] (I, L, ab_RR, n, nc, ns) res := by
  refine ab_aload_n (i := 0) d_State_begin_0 rfl rfl ?_
  refine ab_getR (ci := 6) (k := 0) (j := kx_now_cables) d_State_begin_1 v_293 rfl (by decide) (by decide) rfl r_kx_now_0 ?_
  refine ab_aload_n (i := 1) d_State_begin_4 rfl rfl ?_
  obtain ⟨I2, hC, h⟩ := h
  refine ab_callV (me2 := mt_Cables_copy) (b := kx_now_cables) (as := [.ref kx_trial]) (st := []) (rv := none) (M2 := (I2, L, ab_RR, n, nc, ns)) d_State_begin_5 ce_Cables_copy v_671 v_672 v_673 (by decide) rfl (Nat.le_of_ble_eq_true rfl) hC (Nat.le_refl _) (Nat.le_refl _) hc hs (fun j h9 => by cases h9) (fun _ _ => rfl) ?_
  show ab_E w (d + 1) mt_State_begin 8 [.ref kx_now, .ref kx_trial] [] (I2, L, ab_RR, n, nc, ns) res
  refine ab_aload_n (i := 0) d_State_begin_8 rfl rfl ?_
  refine ab_getR (ci := 6) (k := 1) (j := kx_now_swaps) d_State_begin_9 v_295 rfl (by decide) (by decide) rfl r_kx_now_1 ?_
  refine ab_iconst (v := 0) d_State_begin_12 rfl ?_
  refine ab_putI (ci := 7) (k := 1) d_State_begin_13 v_260 rfl (by decide) (by decide) rfl (Or.inl rfl) rfl rfl ?_
  refine ab_aload_n (i := 0) d_State_begin_16 rfl rfl ?_
  refine ab_getR (ci := 6) (k := 2) (j := kx_now_acts) d_State_begin_17 v_297 rfl (by decide) (by decide) rfl r_kx_now_2 ?_
  refine ab_callV (me2 := mt_Acts_clear) (b := kx_now_acts) (as := []) (st := []) (rv := none) (M2 := ((ab_up (ab_up (ab_up I2 kx_now_swaps 1 0) kx_now_acts 4 0) kx_now_acts 5 0), L, ab_RR, n, nc, ns)) d_State_begin_20 ce_Acts_clear v_914 v_915 v_916 (by decide) rfl (Nat.le_of_ble_eq_true rfl) (cx_Acts_clear_0  hT) (Nat.le_refl _) (Nat.le_refl _) hc hs (fun j h9 => by cases h9) (fun _ _ => rfl) ?_
  show ab_E w (d + 1) mt_State_begin 23 [.ref kx_now, .ref kx_trial] [] ((ab_up (ab_up (ab_up I2 kx_now_swaps 1 0) kx_now_acts 4 0) kx_now_acts 5 0), L, ab_RR, n, nc, ns) res
  refine ab_aload_n (i := 0) d_State_begin_23 rfl rfl ?_
  refine ab_callV (me2 := mt_State_forgetNoted) (b := kx_now) (as := []) (st := []) (rv := none) (M2 := ((ab_up (ab_up (ab_up (ab_up (ab_up (ab_up I2 kx_now_swaps 1 0) kx_now_acts 4 0) kx_now_acts 5 0) kx_now 3 0) kx_now 4 0) kx_now 5 0), L, ab_RR, n, nc, ns)) d_State_begin_24 ce_State_forgetNoted v_918 v_660 v_661 (by decide) rfl (Nat.le_of_ble_eq_true rfl) (cx_State_forgetNoted_0  hT) (Nat.le_refl _) (Nat.le_refl _) hc hs (fun j h9 => by cases h9) (fun _ _ => rfl) ?_
  show ab_E w (d + 1) mt_State_begin 27 [.ref kx_now, .ref kx_trial] [] ((ab_up (ab_up (ab_up (ab_up (ab_up (ab_up I2 kx_now_swaps 1 0) kx_now_acts 4 0) kx_now_acts 5 0) kx_now 3 0) kx_now 4 0) kx_now 5 0), L, ab_RR, n, nc, ns) res
  exact ab_vret d_State_begin_27 rfl h
theorem r_Ways_centre_0 {w : ab_Wd} {d n nc ns : Nat} {I : Nat → Nat → Int32} {L : Nat → Nat → Int64} {res : ab_Re} (hT : w.1.stackTraces = false)  (hc : nc ≤ res.2.2.2.2.2.1) (hs : ns ≤ res.2.2.2.2.2.2)
    (h : ∃ (r1 : Int32), ab_C w d mt_Ways_farthest [.ref kx_ways, .int 0] (I, L, ab_RR, n, nc, ns) (.inl (some (.int r1)), (I, L, ab_RR, n, nc, ns)) ∧ ab_E w (d + 1) mt_Ways_centre 10 [.ref kx_ways, .int 0, .int r1, .int 1, .null] [] (I, L, ab_RR, n, nc, ns) res) : ab_E w (d + 1) mt_Ways_centre 0 [.ref kx_ways, .null, .null, .null, .null] [] (I, L, ab_RR, n, nc, ns) res := by
  refine ab_iconst (v := 0) d_Ways_centre_0 rfl ?_
  refine ab_istore_n (i := 1) d_Ways_centre_1 rfl (by decide) (Or.inr rfl) ?_
  refine ab_aload_n (i := 0) d_Ways_centre_2 rfl rfl ?_
  refine ab_iconst (v := 0) d_Ways_centre_3 rfl ?_
  obtain ⟨r1, hC, h⟩ := h
  refine ab_callV (me2 := mt_Ways_farthest) (b := kx_ways) (as := [.int 0]) (st := []) (rv := (some (.int r1))) (M2 := (I, L, ab_RR, n, nc, ns)) d_Ways_centre_4 ce_Ways_farthest v_974 v_975 v_976 (by decide) rfl (Nat.le_of_ble_eq_true rfl) hC (Nat.le_refl _) (Nat.le_refl _) hc hs (fun j h9 => by cases h9) (fun _ _ => rfl) ?_
  show ab_E w (d + 1) mt_Ways_centre 7 [.ref kx_ways, .int 0, .null, .null, .null] [.int r1] (I, L, ab_RR, n, nc, ns) res
  refine ab_istore_n (i := 2) d_Ways_centre_7 rfl (by decide) (Or.inr rfl) ?_
  refine ab_iconst (v := 1) d_Ways_centre_8 rfl ?_
  refine ab_istore_n (i := 3) d_Ways_centre_9 rfl (by decide) (Or.inr rfl) ?_
  exact h
theorem r_Ways_centre_10 {w : ab_Wd} {d n nc ns : Nat} {I : Nat → Nat → Int32} {L : Nat → Nat → Int64} {res : ab_Re} (hT : w.1.stackTraces = false) (v1 : Int32) (v2 : Int32) (v3 : Int32) (hc : nc ≤ res.2.2.2.2.2.1) (hs : ns ≤ res.2.2.2.2.2.2)
    (h : (((I kx_ways 0) ≤ v3 → (res = (.inl (some (.int v1)), (I, L, ab_RR, n, nc, ns)))) ∧ (¬ (I kx_ways 0) ≤ v3 → (∃ (r2 : Int32), ab_C w d mt_Ways_farthest [.ref kx_ways, .int v3] (I, L, ab_RR, n, nc, ns) (.inl (some (.int r2)), (I, L, ab_RR, n, nc, ns)) ∧ ((v2 ≤ r2 → (ab_E w (d + 1) mt_Ways_centre 10 [.ref kx_ways, .int v1, .int v2, .int (v3 + 1), .null] [] (I, L, ab_RR, n, nc, ns) res)) ∧ (¬ v2 ≤ r2 → (ab_E w (d + 1) mt_Ways_centre 10 [.ref kx_ways, .int v3, .int r2, .int (v3 + 1), .null] [] (I, L, ab_RR, n, nc, ns) res))))))) : ab_E w (d + 1) mt_Ways_centre 10 [.ref kx_ways, .int v1, .int v2, .int v3, .null] [] (I, L, ab_RR, n, nc, ns) res := by
  refine ab_iload_n (i := 3) d_Ways_centre_10 rfl rfl ?_
  refine ab_aload_n (i := 0) d_Ways_centre_11 rfl rfl ?_
  refine ab_getI (ci := 9) (k := 0) d_Ways_centre_12 v_361 rfl (by decide) (by decide) rfl ?_
  refine ab_icmp_ge (tgt := 42) d_Ways_centre_15 (by decide) (fun c1 => ?_) (fun c1 => ?_)
  · have h := h.1 c1
    refine ab_iload_n (i := 1) d_Ways_centre_42 rfl rfl ?_
    exact ab_iret (ty := .int) d_Ways_centre_43 rfl rfl h
  · have h := h.2 c1
    refine ab_aload_n (i := 0) d_Ways_centre_18 rfl rfl ?_
    refine ab_iload_n (i := 3) d_Ways_centre_19 rfl rfl ?_
    obtain ⟨r2, hC, h⟩ := h
    refine ab_callV (me2 := mt_Ways_farthest) (b := kx_ways) (as := [.int v3]) (st := []) (rv := (some (.int r2))) (M2 := (I, L, ab_RR, n, nc, ns)) d_Ways_centre_20 ce_Ways_farthest v_974 v_975 v_976 (by decide) rfl (Nat.le_of_ble_eq_true rfl) hC (Nat.le_refl _) (Nat.le_refl _) hc hs (fun j h9 => by cases h9) (fun _ _ => rfl) ?_
    show ab_E w (d + 1) mt_Ways_centre 23 [.ref kx_ways, .int v1, .int v2, .int v3, .null] [.int r2] (I, L, ab_RR, n, nc, ns) res
    refine ab_istore (i := 4) d_Ways_centre_23 (by decide) (Or.inr rfl) ?_
    refine ab_iload (i := 4) d_Ways_centre_25 rfl ?_
    refine ab_iload_n (i := 2) d_Ways_centre_27 rfl rfl ?_
    refine ab_icmp_ge (tgt := 36) d_Ways_centre_28 (by decide) (fun c3 => ?_) (fun c3 => ?_)
    · have h := h.1 c3
      refine ab_iinc (i := 3) (v := (v3 + 1)) d_Ways_centre_36 rfl rfl (by decide) (Or.inr rfl) ?_
      refine ab_goto (tgt := 10) d_Ways_centre_39 (by decide) ?_
      refine ab_drop 4 ?_
      exact h
    · have h := h.2 c3
      refine ab_iload_n (i := 3) d_Ways_centre_31 rfl rfl ?_
      refine ab_istore_n (i := 1) d_Ways_centre_32 rfl (by decide) (Or.inr rfl) ?_
      refine ab_iload (i := 4) d_Ways_centre_33 rfl ?_
      refine ab_istore_n (i := 2) d_Ways_centre_35 rfl (by decide) (Or.inr rfl) ?_
      refine ab_iinc (i := 3) (v := (v3 + 1)) d_Ways_centre_36 rfl rfl (by decide) (Or.inr rfl) ?_
      refine ab_goto (tgt := 10) d_Ways_centre_39 (by decide) ?_
      refine ab_drop 4 ?_
      exact h
theorem r_Ways_farthest_0 {w : ab_Wd} {d n nc ns : Nat} {I : Nat → Nat → Int32} {L : Nat → Nat → Int64} {res : ab_Re} (hT : w.1.stackTraces = false) (v1 : Int32) (hc : nc ≤ res.2.2.2.2.2.1) (hs : ns ≤ res.2.2.2.2.2.2)
    (h : ab_E w (d + 1) mt_Ways_farthest 4 [.ref kx_ways, .int v1, .int 0, .int 0] [] (I, L, ab_RR, n, nc, ns) res) : ab_E w (d + 1) mt_Ways_farthest 0 [.ref kx_ways, .int v1, .null, .null] [] (I, L, ab_RR, n, nc, ns) res := by
  refine ab_iconst (v := 0) d_Ways_farthest_0 rfl ?_
  refine ab_istore_n (i := 2) d_Ways_farthest_1 rfl (by decide) (Or.inr rfl) ?_
  refine ab_iconst (v := 0) d_Ways_farthest_2 rfl ?_
  refine ab_istore_n (i := 3) d_Ways_farthest_3 rfl (by decide) (Or.inr rfl) ?_
  exact h
theorem r_Ways_farthest_4 {w : ab_Wd} {d n nc ns : Nat} {I : Nat → Nat → Int32} {L : Nat → Nat → Int64} {res : ab_Re} (hT : w.1.stackTraces = false) (v1 : Int32) (v2 : Int32) (v3 : Int32) (hc : nc ≤ res.2.2.2.2.2.1) (hs : ns ≤ res.2.2.2.2.2.2)
    (h : (((I kx_ways 0) ≤ v3 → (res = (.inl (some (.int v2)), (I, L, ab_RR, n, nc, ns)))) ∧ (¬ (I kx_ways 0) ≤ v3 → ((vp_in ((v1 * 10) + v3) 100) ∧ ab_E w (d + 1) mt_Ways_farthest 4 [.ref kx_ways, .int v1, .int (ab_max32 v2 (I kx_ways_span ((v1 * 10) + v3).toNatClampNeg)), .int (v3 + 1)] [] (I, L, ab_RR, n, nc, ns) res)))) : ab_E w (d + 1) mt_Ways_farthest 4 [.ref kx_ways, .int v1, .int v2, .int v3] [] (I, L, ab_RR, n, nc, ns) res := by
  refine ab_iload_n (i := 3) d_Ways_farthest_4 rfl rfl ?_
  refine ab_aload_n (i := 0) d_Ways_farthest_5 rfl rfl ?_
  refine ab_getI (ci := 9) (k := 0) d_Ways_farthest_6 v_361 rfl (by decide) (by decide) rfl ?_
  refine ab_icmp_ge (tgt := 33) d_Ways_farthest_9 (by decide) (fun c1 => ?_) (fun c1 => ?_)
  · have h := h.1 c1
    refine ab_iload_n (i := 2) d_Ways_farthest_33 rfl rfl ?_
    exact ab_iret (ty := .int) d_Ways_farthest_34 rfl rfl h
  · have h := h.2 c1
    refine ab_iload_n (i := 2) d_Ways_farthest_12 rfl rfl ?_
    refine ab_aload_n (i := 0) d_Ways_farthest_13 rfl rfl ?_
    refine ab_getR (ci := 9) (k := 1) (j := kx_ways_span) d_Ways_farthest_14 v_362 rfl (by decide) (by decide) rfl r_kx_ways_1 ?_
    refine ab_iload_n (i := 1) d_Ways_farthest_17 rfl rfl ?_
    refine ab_iload_n (i := 3) d_Ways_farthest_18 rfl rfl ?_
    refine ab_callS (me2 := mt_Ways_at) (as := [.int v1, .int v3]) (st := [.ref kx_ways_span, .int v2]) (rv := (some (.int ((v1 * 10) + v3)))) (M2 := (I, L, ab_RR, n, nc, ns)) d_Ways_farthest_19 ce_Ways_at ⟨v_458, Or.inl v_457⟩ (Nat.le_of_ble_eq_true rfl) (cx_Ways_at_0 v1 v3 hT) (Nat.le_refl _) (Nat.le_refl _) hc hs (fun j h9 => by cases h9) (fun _ _ => rfl) ?_
    show ab_E w (d + 1) mt_Ways_farthest 22 [.ref kx_ways, .int v1, .int v2, .int v3] [.int ((v1 * 10) + v3), .ref kx_ways_span, .int v2] (I, L, ab_RR, n, nc, ns) res
    have g3 := h.1; have h := h.2
    refine ab_iald d_Ways_farthest_22 rfl rfl g3 ?_
    refine ab_max d_Ways_farthest_23 v_978 v_451 v_150 v_452 (Nat.succ_le_succ (Nat.zero_le _)) (Nat.le_of_ble_eq_true rfl) hc hs ?_
    refine ab_istore_n (i := 2) d_Ways_farthest_26 rfl (by decide) (Or.inr rfl) ?_
    refine ab_iinc (i := 3) (v := (v3 + 1)) d_Ways_farthest_27 rfl rfl (by decide) (Or.inr rfl) ?_
    refine ab_goto (tgt := 4) d_Ways_farthest_30 (by decide) ?_
    exact h
theorem r_Ways_longest_0 {w : ab_Wd} {d n nc ns : Nat} {I : Nat → Nat → Int32} {L : Nat → Nat → Int64} {res : ab_Re} (hT : w.1.stackTraces = false)  (hc : nc ≤ res.2.2.2.2.2.1) (hs : ns ≤ res.2.2.2.2.2.2)
    (h : ab_E w (d + 1) mt_Ways_longest 4 [.ref kx_ways, .int 0, .int 0] [] (I, L, ab_RR, n, nc, ns) res) : ab_E w (d + 1) mt_Ways_longest 0 [.ref kx_ways, .null, .null] [] (I, L, ab_RR, n, nc, ns) res := by
  refine ab_iconst (v := 0) d_Ways_longest_0 rfl ?_
  refine ab_istore_n (i := 1) d_Ways_longest_1 rfl (by decide) (Or.inr rfl) ?_
  refine ab_iconst (v := 0) d_Ways_longest_2 rfl ?_
  refine ab_istore_n (i := 2) d_Ways_longest_3 rfl (by decide) (Or.inr rfl) ?_
  exact h
theorem r_Ways_longest_4 {w : ab_Wd} {d n nc ns : Nat} {I : Nat → Nat → Int32} {L : Nat → Nat → Int64} {res : ab_Re} (hT : w.1.stackTraces = false) (v1 : Int32) (v2 : Int32) (hc : nc ≤ res.2.2.2.2.2.1) (hs : ns ≤ res.2.2.2.2.2.2)
    (h : (((I kx_ways 0) ≤ v2 → (res = (.inl (some (.int v1)), (I, L, ab_RR, n, nc, ns)))) ∧ (¬ (I kx_ways 0) ≤ v2 → (∃ (r2 : Int32), ab_C w d mt_Ways_farthest [.ref kx_ways, .int v2] (I, L, ab_RR, n, nc, ns) (.inl (some (.int r2)), (I, L, ab_RR, n, nc, ns)) ∧ ab_E w (d + 1) mt_Ways_longest 4 [.ref kx_ways, .int (ab_max32 v1 r2), .int (v2 + 1)] [] (I, L, ab_RR, n, nc, ns) res)))) : ab_E w (d + 1) mt_Ways_longest 4 [.ref kx_ways, .int v1, .int v2] [] (I, L, ab_RR, n, nc, ns) res := by
  refine ab_iload_n (i := 2) d_Ways_longest_4 rfl rfl ?_
  refine ab_aload_n (i := 0) d_Ways_longest_5 rfl rfl ?_
  refine ab_getI (ci := 9) (k := 0) d_Ways_longest_6 v_361 rfl (by decide) (by decide) rfl ?_
  refine ab_icmp_ge (tgt := 28) d_Ways_longest_9 (by decide) (fun c1 => ?_) (fun c1 => ?_)
  · have h := h.1 c1
    refine ab_iload_n (i := 1) d_Ways_longest_28 rfl rfl ?_
    exact ab_iret (ty := .int) d_Ways_longest_29 rfl rfl h
  · have h := h.2 c1
    refine ab_iload_n (i := 1) d_Ways_longest_12 rfl rfl ?_
    refine ab_aload_n (i := 0) d_Ways_longest_13 rfl rfl ?_
    refine ab_iload_n (i := 2) d_Ways_longest_14 rfl rfl ?_
    obtain ⟨r2, hC, h⟩ := h
    refine ab_callV (me2 := mt_Ways_farthest) (b := kx_ways) (as := [.int v2]) (st := [.int v1]) (rv := (some (.int r2))) (M2 := (I, L, ab_RR, n, nc, ns)) d_Ways_longest_15 ce_Ways_farthest v_974 v_975 v_976 (by decide) rfl (Nat.le_of_ble_eq_true rfl) hC (Nat.le_refl _) (Nat.le_refl _) hc hs (fun j h9 => by cases h9) (fun _ _ => rfl) ?_
    show ab_E w (d + 1) mt_Ways_longest 18 [.ref kx_ways, .int v1, .int v2] [.int r2, .int v1] (I, L, ab_RR, n, nc, ns) res
    refine ab_max d_Ways_longest_18 v_978 v_451 v_150 v_452 (Nat.succ_le_succ (Nat.zero_le _)) (Nat.le_of_ble_eq_true rfl) hc hs ?_
    refine ab_istore_n (i := 1) d_Ways_longest_21 rfl (by decide) (Or.inr rfl) ?_
    refine ab_iinc (i := 2) (v := (v2 + 1)) d_Ways_longest_22 rfl rfl (by decide) (Or.inr rfl) ?_
    refine ab_goto (tgt := 4) d_Ways_longest_25 (by decide) ?_
    exact h
theorem r_Roads_apart_0 {w : ab_Wd} {d n nc ns : Nat} {I : Nat → Nat → Int32} {L : Nat → Nat → Int64} {res : ab_Re} (hT : w.1.stackTraces = false) (v2 : Int32) (v3 : Int32) (hc : nc ≤ res.2.2.2.2.2.1) (hs : ns ≤ res.2.2.2.2.2.2)
    (h : ((¬ v2 = v3 → (ab_E w (d + 1) mt_Roads_apart 10 [.ref kx_roads, .ref kx_now_cables, .int v2, .int v3, .int 0] [] (I, L, ab_RR, n, nc, ns) res)) ∧ (v2 = v3 → (res = (.inl (some (.int 0)), (I, L, ab_RR, n, nc, ns)))))) : ab_E w (d + 1) mt_Roads_apart 0 [.ref kx_roads, .ref kx_now_cables, .int v2, .int v3, .null] [] (I, L, ab_RR, n, nc, ns) res := by
  refine ab_iload_n (i := 2) d_Roads_apart_0 rfl rfl ?_
  refine ab_iload_n (i := 3) d_Roads_apart_1 rfl rfl ?_
  refine ab_icmp_ne (tgt := 7) d_Roads_apart_2 (by decide) (fun c1 => ?_) (fun c1 => ?_)
  · have h := h.1 c1
    refine ab_iconst (v := 0) d_Roads_apart_7 rfl ?_
    refine ab_istore (i := 4) d_Roads_apart_8 (by decide) (Or.inr rfl) ?_
    exact h
  · have h := h.2 c1
    refine ab_iconst (v := 0) d_Roads_apart_5 rfl ?_
    exact ab_iret (ty := .int) d_Roads_apart_6 rfl rfl h
theorem r_Roads_apart_10 {w : ab_Wd} {d n nc ns : Nat} {I : Nat → Nat → Int32} {L : Nat → Nat → Int64} {res : ab_Re} (hT : w.1.stackTraces = false) (v2 : Int32) (v3 : Int32) (v4 : Int32) (hc : nc ≤ res.2.2.2.2.2.1) (hs : ns ≤ res.2.2.2.2.2.2)
    (h : ((24 ≤ v4 → (ab_E w (d + 1) mt_Roads_apart 34 [.ref kx_roads, .ref kx_now_cables, .int v2, .int v3, .int 0] [] (I, L, ab_RR, n, nc, ns) res)) ∧ (¬ 24 ≤ v4 → ((vp_in v4 24) ∧ ab_E w (d + 1) mt_Roads_apart 10 [.ref kx_roads, .ref kx_now_cables, .int v2, .int v3, .int (v4 + 1)] [] ((ab_up I kx_roads_flow v4.toNatClampNeg 0), L, ab_RR, n, nc, ns) res)))) : ab_E w (d + 1) mt_Roads_apart 10 [.ref kx_roads, .ref kx_now_cables, .int v2, .int v3, .int v4] [] (I, L, ab_RR, n, nc, ns) res := by
  refine ab_iload (i := 4) d_Roads_apart_10 rfl ?_
  refine ab_bipush (v := 24) d_Roads_apart_12 rfl ?_
  refine ab_icmp_ge (tgt := 31) d_Roads_apart_14 (by decide) (fun c1 => ?_) (fun c1 => ?_)
  · have h := h.1 c1
    refine ab_iconst (v := 0) d_Roads_apart_31 rfl ?_
    refine ab_istore (i := 4) d_Roads_apart_32 (by decide) (Or.inr rfl) ?_
    exact h
  · have h := h.2 c1
    refine ab_aload_n (i := 0) d_Roads_apart_17 rfl rfl ?_
    refine ab_getR (ci := 5) (k := 3) (j := kx_roads_flow) d_Roads_apart_18 v_388 rfl (by decide) (by decide) rfl r_kx_roads_3 ?_
    refine ab_iload (i := 4) d_Roads_apart_21 rfl ?_
    refine ab_iconst (v := 0) d_Roads_apart_23 rfl ?_
    have g2 := h.1; have h := h.2
    refine ab_iast d_Roads_apart_24 rfl rfl g2 ?_
    refine ab_iinc (i := 4) (v := (v4 + 1)) d_Roads_apart_25 rfl rfl (by decide) (Or.inr rfl) ?_
    refine ab_goto (tgt := 10) d_Roads_apart_28 (by decide) ?_
    exact h
theorem r_Roads_apart_34 {w : ab_Wd} {d n nc ns : Nat} {I : Nat → Nat → Int32} {L : Nat → Nat → Int64} {res : ab_Re} (hT : w.1.stackTraces = false) (v2 : Int32) (v3 : Int32) (v4 : Int32) (hc : nc ≤ res.2.2.2.2.2.1) (hs : ns ≤ res.2.2.2.2.2.2)
    (h : ((24 ≤ v4 → (res = (.inl (some (.int v4)), (I, L, ab_RR, n, nc, ns)))) ∧ (¬ 24 ≤ v4 → (∃ (r2 : Int32) (I3 : Nat → Nat → Int32), ab_C w d mt_Roads_reach [.ref kx_roads, .ref kx_now_cables, .int v2, .int v3] (I, L, ab_RR, n, nc, ns) (.inl (some (.int r2)), (I3, L, ab_RR, n, nc, ns)) ∧ ((r2 = 0 → (res = (.inl (some (.int v4)), (I3, L, ab_RR, n, nc, ns)))) ∧ (¬ r2 = 0 → (∃ (I6 : Nat → Nat → Int32), ab_C w d mt_Roads_use [.ref kx_roads, .ref kx_now_cables, .int v2, .int v3] (I3, L, ab_RR, n, nc, ns) (.inl none, (I6, L, ab_RR, n, nc, ns)) ∧ ab_E w (d + 1) mt_Roads_apart 34 [.ref kx_roads, .ref kx_now_cables, .int v2, .int v3, .int (v4 + 1)] [] (I6, L, ab_RR, n, nc, ns) res))))))) : ab_E w (d + 1) mt_Roads_apart 34 [.ref kx_roads, .ref kx_now_cables, .int v2, .int v3, .int v4] [] (I, L, ab_RR, n, nc, ns) res := by
  refine ab_iload (i := 4) d_Roads_apart_34 rfl ?_
  refine ab_bipush (v := 24) d_Roads_apart_36 rfl ?_
  refine ab_icmp_ge (tgt := 64) d_Roads_apart_38 (by decide) (fun c1 => ?_) (fun c1 => ?_)
  · have h := h.1 c1
    refine ab_iload (i := 4) d_Roads_apart_64 rfl ?_
    exact ab_iret (ty := .int) d_Roads_apart_66 rfl rfl h
  · have h := h.2 c1
    refine ab_aload_n (i := 0) d_Roads_apart_41 rfl rfl ?_
    refine ab_aload_n (i := 1) d_Roads_apart_42 rfl rfl ?_
    refine ab_iload_n (i := 2) d_Roads_apart_43 rfl rfl ?_
    refine ab_iload_n (i := 3) d_Roads_apart_44 rfl rfl ?_
    obtain ⟨r2, I3, hC, h⟩ := h
    refine ab_callV (me2 := mt_Roads_reach) (b := kx_roads) (as := [.ref kx_now_cables, .int v2, .int v3]) (st := []) (rv := (some (.int r2))) (M2 := (I3, L, ab_RR, n, nc, ns)) d_Roads_apart_45 ce_Roads_reach v_1159 v_1161 v_52 (by decide) rfl (Nat.le_of_ble_eq_true rfl) hC (Nat.le_refl _) (Nat.le_refl _) hc hs (fun j h9 => by cases h9) (fun _ _ => rfl) ?_
    show ab_E w (d + 1) mt_Roads_apart 48 [.ref kx_roads, .ref kx_now_cables, .int v2, .int v3, .int v4] [.int r2] (I3, L, ab_RR, n, nc, ns) res
    refine ab_if_eq (tgt := 64) d_Roads_apart_48 (by decide) (fun c4 => ?_) (fun c4 => ?_)
    · have h := h.1 c4
      refine ab_iload (i := 4) d_Roads_apart_64 rfl ?_
      exact ab_iret (ty := .int) d_Roads_apart_66 rfl rfl h
    · have h := h.2 c4
      refine ab_aload_n (i := 0) d_Roads_apart_51 rfl rfl ?_
      refine ab_aload_n (i := 1) d_Roads_apart_52 rfl rfl ?_
      refine ab_iload_n (i := 2) d_Roads_apart_53 rfl rfl ?_
      refine ab_iload_n (i := 3) d_Roads_apart_54 rfl rfl ?_
      obtain ⟨I6, hC, h⟩ := h
      refine ab_callV (me2 := mt_Roads_use) (b := kx_roads) (as := [.ref kx_now_cables, .int v2, .int v3]) (st := []) (rv := none) (M2 := (I6, L, ab_RR, n, nc, ns)) d_Roads_apart_55 ce_Roads_use v_1167 v_1169 v_54 (by decide) rfl (Nat.le_of_ble_eq_true rfl) hC (Nat.le_refl _) (Nat.le_refl _) hc hs (fun j h9 => by cases h9) (fun _ _ => rfl) ?_
      show ab_E w (d + 1) mt_Roads_apart 58 [.ref kx_roads, .ref kx_now_cables, .int v2, .int v3, .int v4] [] (I6, L, ab_RR, n, nc, ns) res
      refine ab_iinc (i := 4) (v := (v4 + 1)) d_Roads_apart_58 rfl rfl (by decide) (Or.inr rfl) ?_
      refine ab_goto (tgt := 34) d_Roads_apart_61 (by decide) ?_
      exact h
theorem cx_Roads_orNone_0 {w : ab_Wd} {d n nc ns : Nat} {I : Nat → Nat → Int32} {L : Nat → Nat → Int64} (v0 : Int32) (hT : w.1.stackTraces = false) (e1 : 1000000 ≤ v0) : ab_C w d mt_Roads_orNone [.int v0] (I, L, ab_RR, n, nc, ns) (.inl (some (.int (-1))), (I, L, ab_RR, n, nc, ns)) := by
  refine ab_C_of (by decide) rfl (Nat.le_of_ble_eq_true rfl) hT ?_
  have hc := Nat.le_refl nc
  have hs := Nat.le_refl ns
  refine ab_iload_n (i := 0) d_Roads_orNone_0 rfl rfl ?_
  refine ab_ldc (v := 1000000) d_Roads_orNone_1 v_1033 ?_
  refine ab_icmp_ge (tgt := 10) d_Roads_orNone_3 (by decide) (fun _ => ?_) (fun c9 => absurd e1 c9)
  refine ab_iconst (v := (-1)) d_Roads_orNone_10 rfl ?_
  exact ab_iret (ty := .int) d_Roads_orNone_11 rfl rfl rfl
theorem cx_Roads_orNone_1 {w : ab_Wd} {d n nc ns : Nat} {I : Nat → Nat → Int32} {L : Nat → Nat → Int64} (v0 : Int32) (hT : w.1.stackTraces = false) (e1 : ¬ 1000000 ≤ v0) : ab_C w d mt_Roads_orNone [.int v0] (I, L, ab_RR, n, nc, ns) (.inl (some (.int v0)), (I, L, ab_RR, n, nc, ns)) := by
  refine ab_C_of (by decide) rfl (Nat.le_of_ble_eq_true rfl) hT ?_
  have hc := Nat.le_refl nc
  have hs := Nat.le_refl ns
  refine ab_iload_n (i := 0) d_Roads_orNone_0 rfl rfl ?_
  refine ab_ldc (v := 1000000) d_Roads_orNone_1 v_1033 ?_
  refine ab_icmp_ge (tgt := 10) d_Roads_orNone_3 (by decide) (fun c9 => absurd c9 e1) (fun _ => ?_)
  refine ab_iload_n (i := 0) d_Roads_orNone_6 rfl rfl ?_
  refine ab_goto (tgt := 11) d_Roads_orNone_7 (by decide) ?_
  exact ab_iret (ty := .int) d_Roads_orNone_11 rfl rfl rfl
theorem r_Roads_shortest_0 {w : ab_Wd} {d n nc ns : Nat} {I : Nat → Nat → Int32} {L : Nat → Nat → Int64} {res : ab_Re} (hT : w.1.stackTraces = false) (v2 : Int32) (v3 : Int32) (hc : nc ≤ res.2.2.2.2.2.1) (hs : ns ≤ res.2.2.2.2.2.2)
    (h : ∃ (I2 : Nat → Nat → Int32), ab_C w d mt_Roads_measure [.ref kx_roads, .ref kx_now_cables] (I, L, ab_RR, n, nc, ns) (.inl none, (I2, L, ab_RR, n, nc, ns)) ∧ (vp_in ((v2 * 10) + v3) 100) ∧ ((1000000 ≤ (I2 kx_roads_lengths ((v2 * 10) + v3).toNatClampNeg) → (res = (.inl (some (.int (-1))), (I2, L, ab_RR, n, nc, ns)))) ∧ (¬ 1000000 ≤ (I2 kx_roads_lengths ((v2 * 10) + v3).toNatClampNeg) → (res = (.inl (some (.int (I2 kx_roads_lengths ((v2 * 10) + v3).toNatClampNeg))), (I2, L, ab_RR, n, nc, ns)))))) : ab_E w (d + 1) mt_Roads_shortest 0 [.ref kx_roads, .ref kx_now_cables, .int v2, .int v3] [] (I, L, ab_RR, n, nc, ns) res := by
  refine ab_aload_n (i := 0) d_Roads_shortest_0 rfl rfl ?_
  refine ab_aload_n (i := 1) d_Roads_shortest_1 rfl rfl ?_
  obtain ⟨I2, hC, h⟩ := h
  refine ab_callV (me2 := mt_Roads_measure) (b := kx_roads) (as := [.ref kx_now_cables]) (st := []) (rv := none) (M2 := (I2, L, ab_RR, n, nc, ns)) d_Roads_shortest_2 ce_Roads_measure v_1151 v_1030 v_1031 (by decide) rfl (Nat.le_of_ble_eq_true rfl) hC (Nat.le_refl _) (Nat.le_refl _) hc hs (fun j h9 => by cases h9) (fun _ _ => rfl) ?_
  show ab_E w (d + 1) mt_Roads_shortest 5 [.ref kx_roads, .ref kx_now_cables, .int v2, .int v3] [] (I2, L, ab_RR, n, nc, ns) res
  refine ab_aload_n (i := 0) d_Roads_shortest_5 rfl rfl ?_
  refine ab_iload_n (i := 2) d_Roads_shortest_6 rfl rfl ?_
  refine ab_iload_n (i := 3) d_Roads_shortest_7 rfl rfl ?_
  have g4 := h.1; have h := h.2
  refine ab_callV (me2 := mt_Roads_length) (b := kx_roads) (as := [.int v2, .int v3]) (st := []) (rv := (some (.int (I2 kx_roads_lengths ((v2 * 10) + v3).toNatClampNeg)))) (M2 := (I2, L, ab_RR, n, nc, ns)) d_Roads_shortest_8 ce_Roads_length v_1044 v_1045 v_1046 (by decide) rfl (Nat.le_of_ble_eq_true rfl) (cx_Roads_length_0 v2 v3 hT g4) (Nat.le_refl _) (Nat.le_refl _) hc hs (fun j h9 => by cases h9) (fun _ _ => rfl) ?_
  show ab_E w (d + 1) mt_Roads_shortest 11 [.ref kx_roads, .ref kx_now_cables, .int v2, .int v3] [.int (I2 kx_roads_lengths ((v2 * 10) + v3).toNatClampNeg)] (I2, L, ab_RR, n, nc, ns) res
  by_cases c6 : 1000000 ≤ (I2 kx_roads_lengths ((v2 * 10) + v3).toNatClampNeg)
  · have h := h.1 c6
    refine ab_callS (me2 := mt_Roads_orNone) (as := [.int (I2 kx_roads_lengths ((v2 * 10) + v3).toNatClampNeg)]) (st := []) (rv := (some (.int (-1)))) (M2 := (I2, L, ab_RR, n, nc, ns)) d_Roads_shortest_11 ce_Roads_orNone ⟨v_1153, Or.inl v_1152⟩ (Nat.le_of_ble_eq_true rfl) (cx_Roads_orNone_0 (I2 kx_roads_lengths ((v2 * 10) + v3).toNatClampNeg) hT c6) (Nat.le_refl _) (Nat.le_refl _) hc hs (fun j h9 => by cases h9) (fun _ _ => rfl) ?_
    show ab_E w (d + 1) mt_Roads_shortest 14 [.ref kx_roads, .ref kx_now_cables, .int v2, .int v3] [.int (-1)] (I2, L, ab_RR, n, nc, ns) res
    exact ab_iret (ty := .int) d_Roads_shortest_14 rfl rfl h
  · have h := h.2 c6
    refine ab_callS (me2 := mt_Roads_orNone) (as := [.int (I2 kx_roads_lengths ((v2 * 10) + v3).toNatClampNeg)]) (st := []) (rv := (some (.int (I2 kx_roads_lengths ((v2 * 10) + v3).toNatClampNeg)))) (M2 := (I2, L, ab_RR, n, nc, ns)) d_Roads_shortest_11 ce_Roads_orNone ⟨v_1153, Or.inl v_1152⟩ (Nat.le_of_ble_eq_true rfl) (cx_Roads_orNone_1 (I2 kx_roads_lengths ((v2 * 10) + v3).toNatClampNeg) hT c6) (Nat.le_refl _) (Nat.le_refl _) hc hs (fun j h9 => by cases h9) (fun _ _ => rfl) ?_
    show ab_E w (d + 1) mt_Roads_shortest 14 [.ref kx_roads, .ref kx_now_cables, .int v2, .int v3] [.int (I2 kx_roads_lengths ((v2 * 10) + v3).toNatClampNeg)] (I2, L, ab_RR, n, nc, ns) res
    exact ab_iret (ty := .int) d_Roads_shortest_14 rfl rfl h
theorem r_Cables_ofFirm_0 {w : ab_Wd} {d n nc ns : Nat} {I : Nat → Nat → Int32} {L : Nat → Nat → Int64} {res : ab_Re} (hT : w.1.stackTraces = false) (v1 : Int32) (hc : nc ≤ res.2.2.2.2.2.1) (hs : ns ≤ res.2.2.2.2.2.2)
    (h : ab_E w d mt_Cables_ofFirm 4 [.ref kx_now_cables, .int v1, .int 0, .int 0] [] (I, L, ab_RR, n, nc, ns) res) : ab_E w d mt_Cables_ofFirm 0 [.ref kx_now_cables, .int v1, .null, .null] [] (I, L, ab_RR, n, nc, ns) res := by
  refine ab_iconst (v := 0) d_Cables_ofFirm_0 rfl ?_
  refine ab_istore_n (i := 2) d_Cables_ofFirm_1 rfl (by decide) (Or.inr rfl) ?_
  refine ab_iconst (v := 0) d_Cables_ofFirm_2 rfl ?_
  refine ab_istore_n (i := 3) d_Cables_ofFirm_3 rfl (by decide) (Or.inr rfl) ?_
  exact h
theorem r_Cables_ofFirm_4 {w : ab_Wd} {d n nc ns : Nat} {I : Nat → Nat → Int32} {L : Nat → Nat → Int64} {res : ab_Re} (hT : w.1.stackTraces = false) (v1 : Int32) (v2 : Int32) (v3 : Int32) (hc : nc ≤ res.2.2.2.2.2.1) (hs : ns ≤ res.2.2.2.2.2.2)
    (h : (((I kx_now_cables 1) ≤ v3 → (res = (.inl (some (.int v2)), (I, L, ab_RR, n, nc, ns)))) ∧ (¬ (I kx_now_cables 1) ≤ v3 → ((vp_in v3 24) ∧ ((¬ (I kx_now_cables_firm v3.toNatClampNeg) = v1 → (ab_E w d mt_Cables_ofFirm 4 [.ref kx_now_cables, .int v1, .int v2, .int (v3 + 1)] [] (I, L, ab_RR, n, nc, ns) res)) ∧ ((I kx_now_cables_firm v3.toNatClampNeg) = v1 → (ab_E w d mt_Cables_ofFirm 4 [.ref kx_now_cables, .int v1, .int (v2 ||| ((1 : Int32) <<< (v3 &&& 31))), .int (v3 + 1)] [] (I, L, ab_RR, n, nc, ns) res))))))) : ab_E w d mt_Cables_ofFirm 4 [.ref kx_now_cables, .int v1, .int v2, .int v3] [] (I, L, ab_RR, n, nc, ns) res := by
  refine ab_iload_n (i := 3) d_Cables_ofFirm_4 rfl rfl ?_
  refine ab_aload_n (i := 0) d_Cables_ofFirm_5 rfl rfl ?_
  refine ab_getI (ci := 1) (k := 1) d_Cables_ofFirm_6 v_192 rfl (by decide) (by decide) rfl ?_
  refine ab_icmp_ge (tgt := 34) d_Cables_ofFirm_9 (by decide) (fun c1 => ?_) (fun c1 => ?_)
  · have h := h.1 c1
    refine ab_iload_n (i := 2) d_Cables_ofFirm_34 rfl rfl ?_
    exact ab_iret (ty := .int) d_Cables_ofFirm_35 rfl rfl h
  · have h := h.2 c1
    refine ab_aload_n (i := 0) d_Cables_ofFirm_12 rfl rfl ?_
    refine ab_getR (ci := 1) (k := 6) (j := kx_now_cables_firm) d_Cables_ofFirm_13 v_226 rfl (by decide) (by decide) rfl r_kx_now_cables_6 ?_
    refine ab_iload_n (i := 3) d_Cables_ofFirm_16 rfl rfl ?_
    have g2 := h.1; have h := h.2
    refine ab_iald d_Cables_ofFirm_17 rfl rfl g2 ?_
    refine ab_iload_n (i := 1) d_Cables_ofFirm_18 rfl rfl ?_
    refine ab_icmp_ne (tgt := 28) d_Cables_ofFirm_19 (by decide) (fun c3 => ?_) (fun c3 => ?_)
    · have h := h.1 c3
      refine ab_iinc (i := 3) (v := (v3 + 1)) d_Cables_ofFirm_28 rfl rfl (by decide) (Or.inr rfl) ?_
      refine ab_goto (tgt := 4) d_Cables_ofFirm_31 (by decide) ?_
      exact h
    · have h := h.2 c3
      refine ab_iload_n (i := 2) d_Cables_ofFirm_22 rfl rfl ?_
      refine ab_iconst (v := 1) d_Cables_ofFirm_23 rfl ?_
      refine ab_iload_n (i := 3) d_Cables_ofFirm_24 rfl rfl ?_
      refine ab_ishl d_Cables_ofFirm_25 ?_
      refine ab_ior d_Cables_ofFirm_26 ?_
      refine ab_istore_n (i := 2) d_Cables_ofFirm_27 rfl (by decide) (Or.inr rfl) ?_
      refine ab_iinc (i := 3) (v := (v3 + 1)) d_Cables_ofFirm_28 rfl rfl (by decide) (Or.inr rfl) ?_
      refine ab_goto (tgt := 4) d_Cables_ofFirm_31 (by decide) ?_
      exact h
theorem r_Cables_pricesOf_0 {w : ab_Wd} {d n nc ns : Nat} {I : Nat → Nat → Int32} {L : Nat → Nat → Int64} {res : ab_Re} (hT : w.1.stackTraces = false) (v1 : Int32) (hc : nc ≤ res.2.2.2.2.2.1) (hs : ns ≤ res.2.2.2.2.2.2)
    (h : ab_E w d mt_Cables_pricesOf 4 [.ref kx_now_cables, .int v1, .int 0, .int 0] [] (I, L, ab_RR, n, nc, ns) res) : ab_E w d mt_Cables_pricesOf 0 [.ref kx_now_cables, .int v1, .null, .null] [] (I, L, ab_RR, n, nc, ns) res := by
  refine ab_iconst (v := 0) d_Cables_pricesOf_0 rfl ?_
  refine ab_istore_n (i := 2) d_Cables_pricesOf_1 rfl (by decide) (Or.inr rfl) ?_
  refine ab_iconst (v := 0) d_Cables_pricesOf_2 rfl ?_
  refine ab_istore_n (i := 3) d_Cables_pricesOf_3 rfl (by decide) (Or.inr rfl) ?_
  exact h
theorem r_Cables_pricesOf_4 {w : ab_Wd} {d n nc ns : Nat} {I : Nat → Nat → Int32} {L : Nat → Nat → Int64} {res : ab_Re} (hT : w.1.stackTraces = false) (v1 : Int32) (v2 : Int32) (v3 : Int32) (hc : nc ≤ res.2.2.2.2.2.1) (hs : ns ≤ res.2.2.2.2.2.2)
    (h : (((I kx_now_cables 1) ≤ v3 → (res = (.inl (some (.int v2)), (I, L, ab_RR, n, nc, ns)))) ∧ (¬ (I kx_now_cables 1) ≤ v3 → ((¬ ((v1 >>> (v3 &&& 31)) &&& 1) = 1 → (ab_E w d mt_Cables_pricesOf 4 [.ref kx_now_cables, .int v1, .int v2, .int (v3 + 1)] [] (I, L, ab_RR, n, nc, ns) res)) ∧ (((v1 >>> (v3 &&& 31)) &&& 1) = 1 → ((vp_in v3 24) ∧ ab_E w d mt_Cables_pricesOf 4 [.ref kx_now_cables, .int v1, .int (v2 + (I kx_now_cables_price v3.toNatClampNeg)), .int (v3 + 1)] [] (I, L, ab_RR, n, nc, ns) res)))))) : ab_E w d mt_Cables_pricesOf 4 [.ref kx_now_cables, .int v1, .int v2, .int v3] [] (I, L, ab_RR, n, nc, ns) res := by
  refine ab_iload_n (i := 3) d_Cables_pricesOf_4 rfl rfl ?_
  refine ab_aload_n (i := 0) d_Cables_pricesOf_5 rfl rfl ?_
  refine ab_getI (ci := 1) (k := 1) d_Cables_pricesOf_6 v_192 rfl (by decide) (by decide) rfl ?_
  refine ab_icmp_ge (tgt := 36) d_Cables_pricesOf_9 (by decide) (fun c1 => ?_) (fun c1 => ?_)
  · have h := h.1 c1
    refine ab_iload_n (i := 2) d_Cables_pricesOf_36 rfl rfl ?_
    exact ab_iret (ty := .int) d_Cables_pricesOf_37 rfl rfl h
  · have h := h.2 c1
    refine ab_iload_n (i := 1) d_Cables_pricesOf_12 rfl rfl ?_
    refine ab_iload_n (i := 3) d_Cables_pricesOf_13 rfl rfl ?_
    refine ab_ishr d_Cables_pricesOf_14 ?_
    refine ab_iconst (v := 1) d_Cables_pricesOf_15 rfl ?_
    refine ab_iand d_Cables_pricesOf_16 ?_
    refine ab_iconst (v := 1) d_Cables_pricesOf_17 rfl ?_
    refine ab_icmp_ne (tgt := 30) d_Cables_pricesOf_18 (by decide) (fun c2 => ?_) (fun c2 => ?_)
    · have h := h.1 c2
      refine ab_iinc (i := 3) (v := (v3 + 1)) d_Cables_pricesOf_30 rfl rfl (by decide) (Or.inr rfl) ?_
      refine ab_goto (tgt := 4) d_Cables_pricesOf_33 (by decide) ?_
      exact h
    · have h := h.2 c2
      refine ab_iload_n (i := 2) d_Cables_pricesOf_21 rfl rfl ?_
      refine ab_aload_n (i := 0) d_Cables_pricesOf_22 rfl rfl ?_
      refine ab_getR (ci := 1) (k := 5) (j := kx_now_cables_price) d_Cables_pricesOf_23 v_218 rfl (by decide) (by decide) rfl r_kx_now_cables_5 ?_
      refine ab_iload_n (i := 3) d_Cables_pricesOf_26 rfl rfl ?_
      have g3 := h.1; have h := h.2
      refine ab_iald d_Cables_pricesOf_27 rfl rfl g3 ?_
      refine ab_iadd d_Cables_pricesOf_28 ?_
      refine ab_istore_n (i := 2) d_Cables_pricesOf_29 rfl (by decide) (Or.inr rfl) ?_
      refine ab_iinc (i := 3) (v := (v3 + 1)) d_Cables_pricesOf_30 rfl rfl (by decide) (Or.inr rfl) ?_
      refine ab_goto (tgt := 4) d_Cables_pricesOf_33 (by decide) ?_
      exact h
theorem r_Forest_cheapest_0 {w : ab_Wd} {d n nc ns : Nat} {I : Nat → Nat → Int32} {L : Nat → Nat → Int64} {res : ab_Re} (hT : w.1.stackTraces = false) (v1 : Int32) (hc : nc ≤ res.2.2.2.2.2.1) (hs : ns ≤ res.2.2.2.2.2.2)
    (h : ab_E w d mt_Forest_cheapest 4 [.ref kx_forest, .int v1, .int 0, .int 0] [] (I, L, ab_RR, n, nc, ns) res) : ab_E w d mt_Forest_cheapest 0 [.ref kx_forest, .int v1, .null, .null] [] (I, L, ab_RR, n, nc, ns) res := by
  refine ab_iconst (v := 0) d_Forest_cheapest_0 rfl ?_
  refine ab_istore_n (i := 2) d_Forest_cheapest_1 rfl (by decide) (Or.inr rfl) ?_
  refine ab_iconst (v := 0) d_Forest_cheapest_2 rfl ?_
  refine ab_istore_n (i := 3) d_Forest_cheapest_3 rfl (by decide) (Or.inr rfl) ?_
  exact h
theorem r_Forest_cheapest_4 {w : ab_Wd} {d n nc ns : Nat} {I : Nat → Nat → Int32} {L : Nat → Nat → Int64} {res : ab_Re} (hT : w.1.stackTraces = false) (v1 : Int32) (v2 : Int32) (v3 : Int32) (hc : nc ≤ res.2.2.2.2.2.1) (hs : ns ≤ res.2.2.2.2.2.2)
    (h : ((v1 ≤ v3 → (res = (.inl (some (.int v2)), (I, L, ab_RR, n, nc, ns)))) ∧ (¬ v1 ≤ v3 → (((I kx_forest 1) ≤ v3 → (res = (.inl (some (.int v2)), (I, L, ab_RR, n, nc, ns)))) ∧ (¬ (I kx_forest 1) ≤ v3 → ((vp_in v3 9) ∧ ab_E w d mt_Forest_cheapest 4 [.ref kx_forest, .int v1, .int (v2 ||| ((1 : Int32) <<< ((I kx_forest_order v3.toNatClampNeg) &&& 31))), .int (v3 + 1)] [] (I, L, ab_RR, n, nc, ns) res)))))) : ab_E w d mt_Forest_cheapest 4 [.ref kx_forest, .int v1, .int v2, .int v3] [] (I, L, ab_RR, n, nc, ns) res := by
  refine ab_iload_n (i := 3) d_Forest_cheapest_4 rfl rfl ?_
  refine ab_iload_n (i := 1) d_Forest_cheapest_5 rfl rfl ?_
  refine ab_icmp_ge (tgt := 34) d_Forest_cheapest_6 (by decide) (fun c1 => ?_) (fun c1 => ?_)
  · have h := h.1 c1
    refine ab_iload_n (i := 2) d_Forest_cheapest_34 rfl rfl ?_
    exact ab_iret (ty := .int) d_Forest_cheapest_35 rfl rfl h
  · have h := h.2 c1
    refine ab_iload_n (i := 3) d_Forest_cheapest_9 rfl rfl ?_
    refine ab_aload_n (i := 0) d_Forest_cheapest_10 rfl rfl ?_
    refine ab_getI (ci := 2) (k := 1) d_Forest_cheapest_11 v_331 rfl (by decide) (by decide) rfl ?_
    refine ab_icmp_ge (tgt := 34) d_Forest_cheapest_14 (by decide) (fun c2 => ?_) (fun c2 => ?_)
    · have h := h.1 c2
      refine ab_iload_n (i := 2) d_Forest_cheapest_34 rfl rfl ?_
      exact ab_iret (ty := .int) d_Forest_cheapest_35 rfl rfl h
    · have h := h.2 c2
      refine ab_iload_n (i := 2) d_Forest_cheapest_17 rfl rfl ?_
      refine ab_iconst (v := 1) d_Forest_cheapest_18 rfl ?_
      refine ab_aload_n (i := 0) d_Forest_cheapest_19 rfl rfl ?_
      refine ab_getR (ci := 2) (k := 0) (j := kx_forest_order) d_Forest_cheapest_20 v_328 rfl (by decide) (by decide) rfl r_kx_forest_0 ?_
      refine ab_iload_n (i := 3) d_Forest_cheapest_23 rfl rfl ?_
      have g3 := h.1; have h := h.2
      refine ab_iald d_Forest_cheapest_24 rfl rfl g3 ?_
      refine ab_ishl d_Forest_cheapest_25 ?_
      refine ab_ior d_Forest_cheapest_26 ?_
      refine ab_istore_n (i := 2) d_Forest_cheapest_27 rfl (by decide) (Or.inr rfl) ?_
      refine ab_iinc (i := 3) (v := (v3 + 1)) d_Forest_cheapest_28 rfl rfl (by decide) (Or.inr rfl) ?_
      refine ab_goto (tgt := 4) d_Forest_cheapest_31 (by decide) ?_
      exact h
