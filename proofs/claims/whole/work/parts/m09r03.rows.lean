theorem r_K_note_0 {w : ab_Wd} {d n nc ns : Nat} {I : Nat → Nat → Int32} {L : Nat → Nat → Int64} {res : ab_Re} (hT : w.1.stackTraces = false) (v1 : Int32) (v2 : Int32) (hc : nc ≤ res.2.2.2.2.2.1) (hs : ns ≤ res.2.2.2.2.2.2)
    (h : ((8 ≤ (I kx_now 3) → (res = (.inl (some (.int (-1))), ((ab_up I kx_now_refused 2 ((I kx_now_refused 2) + 1)), L, ab_RR, n, nc, ns)))) ∧ (¬ 8 ≤ (I kx_now 3) → ((v1 < 0 → (res = (.inl (some (.int (-1))), ((ab_up I kx_now_refused 2 ((I kx_now_refused 2) + 1)), L, ab_RR, n, nc, ns)))) ∧ (¬ v1 < 0 → (((I kx_now_cables 1) ≤ v1 → (res = (.inl (some (.int (-1))), ((ab_up I kx_now_refused 2 ((I kx_now_refused 2) + 1)), L, ab_RR, n, nc, ns)))) ∧ (¬ (I kx_now_cables 1) ≤ v1 → ((v2 = 0 → (res = (.inl (some (.int ((I kx_now 3) + 1))), ((ab_up (ab_up I kx_now 5 ((I kx_now 5) ||| ((1 : Int32) <<< (v1 &&& 31)))) kx_now 3 ((I kx_now 3) + 1)), L, ab_RR, n, nc, ns)))) ∧ (¬ v2 = 0 → (res = (.inl (some (.int ((I kx_now 3) + 1))), ((ab_up (ab_up I kx_now 4 ((I kx_now 4) ||| ((1 : Int32) <<< (v1 &&& 31)))) kx_now 3 ((I kx_now 3) + 1)), L, ab_RR, n, nc, ns)))))))))))) : ab_E w (d + 1) mt_K_note 0 [.ref kx, .int v1, .int v2] [] (I, L, ab_RR, n, nc, ns) res := by
  refine ab_aload_n (i := 0) d_K_note_0 rfl rfl ?_
  refine ab_getR (ci := 10) (k := 3) (j := kx_now) d_K_note_1 v_475 rfl (by decide) (by decide) rfl r_kx_3 ?_
  refine ab_getI (ci := 6) (k := 3) d_K_note_4 v_300 rfl (by decide) (by decide) rfl ?_
  refine ab_bipush (v := 8) d_K_note_7 rfl ?_
  refine ab_icmp_ge (tgt := 26) d_K_note_9 (by decide) (fun c1 => ?_) (fun c1 => ?_)
  · have h := h.1 c1
    refine ab_aload_n (i := 0) d_K_note_26 rfl rfl ?_
    refine ab_iconst (v := 2) d_K_note_27 rfl ?_
    refine ab_callV (me2 := mt_K_refuse) (b := kx) (as := [.int 2]) (st := []) (rv := (some (.int (-1)))) (M2 := ((ab_up I kx_now_refused 2 ((I kx_now_refused 2) + 1)), L, ab_RR, n, nc, ns)) d_K_note_28 ce_K_refuse v_574 v_576 v_10 (by decide) rfl (Nat.le_of_ble_eq_true rfl) (cx_K_refuse_0 2 hT (show (vp_in 2 3) from by unfold vp_in; decide) (show (vp_in 2 3) from by unfold vp_in; decide)) (Nat.le_refl _) (Nat.le_refl _) hc hs (fun j h9 => by cases h9) (fun _ _ => rfl) ?_
    show ab_E w (d + 1) mt_K_note 31 [.ref kx, .int v1, .int v2] [.int (-1)] ((ab_up I kx_now_refused 2 ((I kx_now_refused 2) + 1)), L, ab_RR, n, nc, ns) res
    exact ab_iret (ty := .int) d_K_note_31 rfl rfl h
  · have h := h.2 c1
    refine ab_aload_n (i := 0) d_K_note_12 rfl rfl ?_
    refine ab_getR (ci := 10) (k := 3) (j := kx_now) d_K_note_13 v_475 rfl (by decide) (by decide) rfl r_kx_3 ?_
    refine ab_getR (ci := 6) (k := 0) (j := kx_now_cables) d_K_note_16 v_294 rfl (by decide) (by decide) rfl r_kx_now_0 ?_
    refine ab_iload_n (i := 1) d_K_note_19 rfl rfl ?_
    by_cases c5 : v1 < 0
    · have h := h.1 c5
      refine ab_callV (me2 := mt_Cables_has) (b := kx_now_cables) (as := [.int v1]) (st := []) (rv := (some (.int 0))) (M2 := (I, L, ab_RR, n, nc, ns)) d_K_note_20 ce_Cables_has v_567 v_568 v_569 (by decide) rfl (Nat.le_of_ble_eq_true rfl) (cx_Cables_has_0 v1 hT c5) (Nat.le_refl _) (Nat.le_refl _) hc hs (fun j h9 => by cases h9) (fun _ _ => rfl) ?_
      show ab_E w (d + 1) mt_K_note 23 [.ref kx, .int v1, .int v2] [.int 0] (I, L, ab_RR, n, nc, ns) res
      refine ab_if_ne (tgt := 32) d_K_note_23 (by decide) (fun c9 => absurd (show (0 : Int32) = 0 from by decide) c9) (fun _ => ?_)
      refine ab_aload_n (i := 0) d_K_note_26 rfl rfl ?_
      refine ab_iconst (v := 2) d_K_note_27 rfl ?_
      refine ab_callV (me2 := mt_K_refuse) (b := kx) (as := [.int 2]) (st := []) (rv := (some (.int (-1)))) (M2 := ((ab_up I kx_now_refused 2 ((I kx_now_refused 2) + 1)), L, ab_RR, n, nc, ns)) d_K_note_28 ce_K_refuse v_574 v_576 v_10 (by decide) rfl (Nat.le_of_ble_eq_true rfl) (cx_K_refuse_0 2 hT (show (vp_in 2 3) from by unfold vp_in; decide) (show (vp_in 2 3) from by unfold vp_in; decide)) (Nat.le_refl _) (Nat.le_refl _) hc hs (fun j h9 => by cases h9) (fun _ _ => rfl) ?_
      show ab_E w (d + 1) mt_K_note 31 [.ref kx, .int v1, .int v2] [.int (-1)] ((ab_up I kx_now_refused 2 ((I kx_now_refused 2) + 1)), L, ab_RR, n, nc, ns) res
      exact ab_iret (ty := .int) d_K_note_31 rfl rfl h
    · have h := h.2 c5
      by_cases c8 : (I kx_now_cables 1) ≤ v1
      · have h := h.1 c8
        refine ab_callV (me2 := mt_Cables_has) (b := kx_now_cables) (as := [.int v1]) (st := []) (rv := (some (.int 0))) (M2 := (I, L, ab_RR, n, nc, ns)) d_K_note_20 ce_Cables_has v_567 v_568 v_569 (by decide) rfl (Nat.le_of_ble_eq_true rfl) (cx_Cables_has_1 v1 hT c5 c8) (Nat.le_refl _) (Nat.le_refl _) hc hs (fun j h9 => by cases h9) (fun _ _ => rfl) ?_
        show ab_E w (d + 1) mt_K_note 23 [.ref kx, .int v1, .int v2] [.int 0] (I, L, ab_RR, n, nc, ns) res
        refine ab_if_ne (tgt := 32) d_K_note_23 (by decide) (fun c9 => absurd (show (0 : Int32) = 0 from by decide) c9) (fun _ => ?_)
        refine ab_aload_n (i := 0) d_K_note_26 rfl rfl ?_
        refine ab_iconst (v := 2) d_K_note_27 rfl ?_
        refine ab_callV (me2 := mt_K_refuse) (b := kx) (as := [.int 2]) (st := []) (rv := (some (.int (-1)))) (M2 := ((ab_up I kx_now_refused 2 ((I kx_now_refused 2) + 1)), L, ab_RR, n, nc, ns)) d_K_note_28 ce_K_refuse v_574 v_576 v_10 (by decide) rfl (Nat.le_of_ble_eq_true rfl) (cx_K_refuse_0 2 hT (show (vp_in 2 3) from by unfold vp_in; decide) (show (vp_in 2 3) from by unfold vp_in; decide)) (Nat.le_refl _) (Nat.le_refl _) hc hs (fun j h9 => by cases h9) (fun _ _ => rfl) ?_
        show ab_E w (d + 1) mt_K_note 31 [.ref kx, .int v1, .int v2] [.int (-1)] ((ab_up I kx_now_refused 2 ((I kx_now_refused 2) + 1)), L, ab_RR, n, nc, ns) res
        exact ab_iret (ty := .int) d_K_note_31 rfl rfl h
      · have h := h.2 c8
        refine ab_callV (me2 := mt_Cables_has) (b := kx_now_cables) (as := [.int v1]) (st := []) (rv := (some (.int 1))) (M2 := (I, L, ab_RR, n, nc, ns)) d_K_note_20 ce_Cables_has v_567 v_568 v_569 (by decide) rfl (Nat.le_of_ble_eq_true rfl) (cx_Cables_has_2 v1 hT c5 c8) (Nat.le_refl _) (Nat.le_refl _) hc hs (fun j h9 => by cases h9) (fun _ _ => rfl) ?_
        show ab_E w (d + 1) mt_K_note 23 [.ref kx, .int v1, .int v2] [.int 1] (I, L, ab_RR, n, nc, ns) res
        refine ab_if_ne (tgt := 32) d_K_note_23 (by decide) (fun _ => ?_) (fun c9 => absurd c9 (show ¬ (1 : Int32) = 0 from by decide))
        refine ab_iload_n (i := 2) d_K_note_32 rfl rfl ?_
        refine ab_if_eq (tgt := 54) d_K_note_33 (by decide) (fun c11 => ?_) (fun c11 => ?_)
        · have h := h.1 c11
          refine ab_aload_n (i := 0) d_K_note_54 rfl rfl ?_
          refine ab_getR (ci := 10) (k := 3) (j := kx_now) d_K_note_55 v_475 rfl (by decide) (by decide) rfl r_kx_3 ?_
          refine ab_dupr d_K_note_58 ?_
          refine ab_getI (ci := 6) (k := 5) d_K_note_59 v_304 rfl (by decide) (by decide) rfl ?_
          refine ab_iconst (v := 1) d_K_note_62 rfl ?_
          refine ab_iload_n (i := 1) d_K_note_63 rfl rfl ?_
          refine ab_ishl d_K_note_64 ?_
          refine ab_ior d_K_note_65 ?_
          refine ab_putI (ci := 6) (k := 5) d_K_note_66 v_304 rfl (by decide) (by decide) rfl (Or.inl rfl) rfl rfl ?_
          refine ab_aload_n (i := 0) d_K_note_69 rfl rfl ?_
          refine ab_getR (ci := 10) (k := 3) (j := kx_now) d_K_note_70 v_475 rfl (by decide) (by decide) rfl r_kx_3 ?_
          refine ab_dupr d_K_note_73 ?_
          refine ab_getI (ci := 6) (k := 3) d_K_note_74 v_300 rfl (by decide) (by decide) rfl ?_
          refine ab_iconst (v := 1) d_K_note_77 rfl ?_
          refine ab_iadd d_K_note_78 ?_
          refine ab_putI (ci := 6) (k := 3) d_K_note_79 v_300 rfl (by decide) (by decide) rfl (Or.inl rfl) rfl rfl ?_
          refine ab_aload_n (i := 0) d_K_note_82 rfl rfl ?_
          refine ab_getR (ci := 10) (k := 3) (j := kx_now) d_K_note_83 v_475 rfl (by decide) (by decide) rfl r_kx_3 ?_
          refine ab_getI (ci := 6) (k := 3) d_K_note_86 v_300 rfl (by decide) (by decide) rfl ?_
          exact ab_iret (ty := .int) d_K_note_89 rfl rfl h
        · have h := h.2 c11
          refine ab_aload_n (i := 0) d_K_note_36 rfl rfl ?_
          refine ab_getR (ci := 10) (k := 3) (j := kx_now) d_K_note_37 v_475 rfl (by decide) (by decide) rfl r_kx_3 ?_
          refine ab_dupr d_K_note_40 ?_
          refine ab_getI (ci := 6) (k := 4) d_K_note_41 v_302 rfl (by decide) (by decide) rfl ?_
          refine ab_iconst (v := 1) d_K_note_44 rfl ?_
          refine ab_iload_n (i := 1) d_K_note_45 rfl rfl ?_
          refine ab_ishl d_K_note_46 ?_
          refine ab_ior d_K_note_47 ?_
          refine ab_putI (ci := 6) (k := 4) d_K_note_48 v_302 rfl (by decide) (by decide) rfl (Or.inl rfl) rfl rfl ?_
          refine ab_goto (tgt := 69) d_K_note_51 (by decide) ?_
          refine ab_aload_n (i := 0) d_K_note_69 rfl rfl ?_
          refine ab_getR (ci := 10) (k := 3) (j := kx_now) d_K_note_70 v_475 rfl (by decide) (by decide) rfl r_kx_3 ?_
          refine ab_dupr d_K_note_73 ?_
          refine ab_getI (ci := 6) (k := 3) d_K_note_74 v_300 rfl (by decide) (by decide) rfl ?_
          refine ab_iconst (v := 1) d_K_note_77 rfl ?_
          refine ab_iadd d_K_note_78 ?_
          refine ab_putI (ci := 6) (k := 3) d_K_note_79 v_300 rfl (by decide) (by decide) rfl (Or.inl rfl) rfl rfl ?_
          refine ab_aload_n (i := 0) d_K_note_82 rfl rfl ?_
          refine ab_getR (ci := 10) (k := 3) (j := kx_now) d_K_note_83 v_475 rfl (by decide) (by decide) rfl r_kx_3 ?_
          refine ab_getI (ci := 6) (k := 3) d_K_note_86 v_300 rfl (by decide) (by decide) rfl ?_
          exact ab_iret (ty := .int) d_K_note_89 rfl rfl h
theorem cx_State_fitsNoted_0 {w : ab_Wd} {d n nc ns : Nat} {I : Nat → Nat → Int32} {L : Nat → Nat → Int64} (v1 : Int32) (hT : w.1.stackTraces = false) (e1 : ¬ (v1 &&& (I kx_now 4)) = (I kx_now 4)) : ab_C w d mt_State_fitsNoted [.ref kx_now, .int v1] (I, L, ab_RR, n, nc, ns) (.inl (some (.int 0)), (I, L, ab_RR, n, nc, ns)) := by
  refine ab_C_of (by decide) rfl (Nat.le_of_ble_eq_true rfl) hT ?_
  have hc := Nat.le_refl nc
  have hs := Nat.le_refl ns
  refine ab_iload_n (i := 1) d_State_fitsNoted_0 rfl rfl ?_
  refine ab_aload_n (i := 0) d_State_fitsNoted_1 rfl rfl ?_
  refine ab_getI (ci := 6) (k := 4) d_State_fitsNoted_2 v_301 rfl (by decide) (by decide) rfl ?_
  refine ab_iand d_State_fitsNoted_5 ?_
  refine ab_aload_n (i := 0) d_State_fitsNoted_6 rfl rfl ?_
  refine ab_getI (ci := 6) (k := 4) d_State_fitsNoted_7 v_301 rfl (by decide) (by decide) rfl ?_
  refine ab_icmp_ne (tgt := 26) d_State_fitsNoted_10 (by decide) (fun _ => ?_) (fun c9 => absurd c9 e1)
  refine ab_iconst (v := 0) d_State_fitsNoted_26 rfl ?_
  exact ab_iret (ty := .boolean) d_State_fitsNoted_27 rfl rfl rfl
theorem cx_State_fitsNoted_1 {w : ab_Wd} {d n nc ns : Nat} {I : Nat → Nat → Int32} {L : Nat → Nat → Int64} (v1 : Int32) (hT : w.1.stackTraces = false) (e1 : (v1 &&& (I kx_now 4)) = (I kx_now 4)) (e2 : ¬ (v1 &&& (I kx_now 5)) = 0) : ab_C w d mt_State_fitsNoted [.ref kx_now, .int v1] (I, L, ab_RR, n, nc, ns) (.inl (some (.int 0)), (I, L, ab_RR, n, nc, ns)) := by
  refine ab_C_of (by decide) rfl (Nat.le_of_ble_eq_true rfl) hT ?_
  have hc := Nat.le_refl nc
  have hs := Nat.le_refl ns
  refine ab_iload_n (i := 1) d_State_fitsNoted_0 rfl rfl ?_
  refine ab_aload_n (i := 0) d_State_fitsNoted_1 rfl rfl ?_
  refine ab_getI (ci := 6) (k := 4) d_State_fitsNoted_2 v_301 rfl (by decide) (by decide) rfl ?_
  refine ab_iand d_State_fitsNoted_5 ?_
  refine ab_aload_n (i := 0) d_State_fitsNoted_6 rfl rfl ?_
  refine ab_getI (ci := 6) (k := 4) d_State_fitsNoted_7 v_301 rfl (by decide) (by decide) rfl ?_
  refine ab_icmp_ne (tgt := 26) d_State_fitsNoted_10 (by decide) (fun c9 => absurd e1 c9) (fun _ => ?_)
  refine ab_iload_n (i := 1) d_State_fitsNoted_13 rfl rfl ?_
  refine ab_aload_n (i := 0) d_State_fitsNoted_14 rfl rfl ?_
  refine ab_getI (ci := 6) (k := 5) d_State_fitsNoted_15 v_303 rfl (by decide) (by decide) rfl ?_
  refine ab_iand d_State_fitsNoted_18 ?_
  refine ab_if_ne (tgt := 26) d_State_fitsNoted_19 (by decide) (fun _ => ?_) (fun c9 => absurd c9 e2)
  refine ab_iconst (v := 0) d_State_fitsNoted_26 rfl ?_
  exact ab_iret (ty := .boolean) d_State_fitsNoted_27 rfl rfl rfl
theorem cx_State_fitsNoted_2 {w : ab_Wd} {d n nc ns : Nat} {I : Nat → Nat → Int32} {L : Nat → Nat → Int64} (v1 : Int32) (hT : w.1.stackTraces = false) (e1 : (v1 &&& (I kx_now 4)) = (I kx_now 4)) (e2 : (v1 &&& (I kx_now 5)) = 0) : ab_C w d mt_State_fitsNoted [.ref kx_now, .int v1] (I, L, ab_RR, n, nc, ns) (.inl (some (.int 1)), (I, L, ab_RR, n, nc, ns)) := by
  refine ab_C_of (by decide) rfl (Nat.le_of_ble_eq_true rfl) hT ?_
  have hc := Nat.le_refl nc
  have hs := Nat.le_refl ns
  refine ab_iload_n (i := 1) d_State_fitsNoted_0 rfl rfl ?_
  refine ab_aload_n (i := 0) d_State_fitsNoted_1 rfl rfl ?_
  refine ab_getI (ci := 6) (k := 4) d_State_fitsNoted_2 v_301 rfl (by decide) (by decide) rfl ?_
  refine ab_iand d_State_fitsNoted_5 ?_
  refine ab_aload_n (i := 0) d_State_fitsNoted_6 rfl rfl ?_
  refine ab_getI (ci := 6) (k := 4) d_State_fitsNoted_7 v_301 rfl (by decide) (by decide) rfl ?_
  refine ab_icmp_ne (tgt := 26) d_State_fitsNoted_10 (by decide) (fun c9 => absurd e1 c9) (fun _ => ?_)
  refine ab_iload_n (i := 1) d_State_fitsNoted_13 rfl rfl ?_
  refine ab_aload_n (i := 0) d_State_fitsNoted_14 rfl rfl ?_
  refine ab_getI (ci := 6) (k := 5) d_State_fitsNoted_15 v_303 rfl (by decide) (by decide) rfl ?_
  refine ab_iand d_State_fitsNoted_18 ?_
  refine ab_if_ne (tgt := 26) d_State_fitsNoted_19 (by decide) (fun c9 => absurd e2 c9) (fun _ => ?_)
  refine ab_iconst (v := 1) d_State_fitsNoted_22 rfl ?_
  refine ab_goto (tgt := 27) d_State_fitsNoted_23 (by decide) ?_
  exact ab_iret (ty := .boolean) d_State_fitsNoted_27 rfl rfl rfl
theorem r_K_fits_0 {w : ab_Wd} {d n nc ns : Nat} {I : Nat → Nat → Int32} {L : Nat → Nat → Int64} {res : ab_Re} (hT : w.1.stackTraces = false) (v1 : Int32) (v2 : Int32) (h8 : 8 ≤ (d + 1)) (hc : nc ≤ res.2.2.2.2.2.1) (hs : ns ≤ res.2.2.2.2.2.2)
    (h : ((ab_C w d mt_K_needCable [.ref kx, .int v1] (I, L, ab_RR, n, nc, ns) (.inl none, (I, L, ab_RR, n, nc, ns)) ∧ ((v2 < 0 → (res = (.inr "java/util/NoSuchElementException", (I, L, ab_RR, n, nc + 1, ns + 6)))) ∧ (¬ v2 < 0 → ((v2 ≤ 1 → ((ab_C w d mt_K_needSound [.ref kx, .int v1] (I, L, ab_RR, n, nc, ns) (.inl none, (I, L, ab_RR, n, nc, ns)) ∧ (∃ (r5 : Int32), ab_C w d mt_K_barOf [.ref kx, .int v1] (I, L, ab_RR, n, nc, ns) (.inl (some (.int r5)), (I, L, ab_RR, n, nc, ns)) ∧ ∃ (r6 : Int32), ab_C w d mt_K_netWith [.ref kx, .int v1] (I, L, ab_RR, n, nc, ns) (.inl (some (.int r6)), (I, L, ab_RR, n, nc, ns)) ∧ (((r6 &&& (I kx_now 4)) = (I kx_now 4) → (((r6 &&& (I kx_now 5)) = 0 → (∃ (r10 : Int32), ab_C w d mt_K_netWithout [.ref kx, .int v1] (I, L, ab_RR, n, nc, ns) (.inl (some (.int r10)), (I, L, ab_RR, n, nc, ns)) ∧ (((r10 &&& (I kx_now 4)) = (I kx_now 4) → (((r10 &&& (I kx_now 5)) = 0 → ((¬ v2 = 0 → (((ab_max32 r5 0) ≤ 0 → (((999 - (ab_max32 r5 0)) ≤ 0 → (res = (.inl (some (.int (-1))), (I, L, ab_RR, n, nc, ns)))) ∧ (¬ (999 - (ab_max32 r5 0)) ≤ 0 → (res = (.inl (some (.int ((ab_max32 r5 0) + 1))), (I, L, ab_RR, n, nc, ns)))))) ∧ (¬ (ab_max32 r5 0) ≤ 0 → (res = (.inl (some (.int 1)), (I, L, ab_RR, n, nc, ns)))))) ∧ (v2 = 0 → (res = (.inl (some (.int ((ab_max32 r5 0) + (999 - (ab_max32 r5 0))))), (I, L, ab_RR, n, nc, ns)))))) ∧ (¬ (r10 &&& (I kx_now 5)) = 0 → ((¬ v2 = 0 → (((ab_max32 r5 0) ≤ 0 → (res = (.inl (some (.int (-1))), (I, L, ab_RR, n, nc, ns)))) ∧ (¬ (ab_max32 r5 0) ≤ 0 → (res = (.inl (some (.int 1)), (I, L, ab_RR, n, nc, ns)))))) ∧ (v2 = 0 → (res = (.inl (some (.int ((ab_max32 r5 0) + 0))), (I, L, ab_RR, n, nc, ns)))))))) ∧ (¬ (r10 &&& (I kx_now 4)) = (I kx_now 4) → ((¬ v2 = 0 → (((ab_max32 r5 0) ≤ 0 → (res = (.inl (some (.int (-1))), (I, L, ab_RR, n, nc, ns)))) ∧ (¬ (ab_max32 r5 0) ≤ 0 → (res = (.inl (some (.int 1)), (I, L, ab_RR, n, nc, ns)))))) ∧ (v2 = 0 → (res = (.inl (some (.int ((ab_max32 r5 0) + 0))), (I, L, ab_RR, n, nc, ns))))))))) ∧ (¬ (r6 &&& (I kx_now 5)) = 0 → (∃ (r21 : Int32), ab_C w d mt_K_netWithout [.ref kx, .int v1] (I, L, ab_RR, n, nc, ns) (.inl (some (.int r21)), (I, L, ab_RR, n, nc, ns)) ∧ (((r21 &&& (I kx_now 4)) = (I kx_now 4) → (((r21 &&& (I kx_now 5)) = 0 → ((¬ v2 = 0 → (((999 - (ab_max32 r5 0)) ≤ 0 → (res = (.inl (some (.int (-1))), (I, L, ab_RR, n, nc, ns)))) ∧ (¬ (999 - (ab_max32 r5 0)) ≤ 0 → (res = (.inl (some (.int ((ab_max32 r5 0) + 1))), (I, L, ab_RR, n, nc, ns)))))) ∧ (v2 = 0 → (res = (.inl (some (.int (0 + (999 - (ab_max32 r5 0))))), (I, L, ab_RR, n, nc, ns)))))) ∧ (¬ (r21 &&& (I kx_now 5)) = 0 → ((¬ v2 = 0 → (res = (.inl (some (.int (-1))), (I, L, ab_RR, n, nc, ns)))) ∧ (v2 = 0 → (res = (.inl (some (.int (0 + 0))), (I, L, ab_RR, n, nc, ns)))))))) ∧ (¬ (r21 &&& (I kx_now 4)) = (I kx_now 4) → ((¬ v2 = 0 → (res = (.inl (some (.int (-1))), (I, L, ab_RR, n, nc, ns)))) ∧ (v2 = 0 → (res = (.inl (some (.int (0 + 0))), (I, L, ab_RR, n, nc, ns))))))))))) ∧ (¬ (r6 &&& (I kx_now 4)) = (I kx_now 4) → (∃ (r29 : Int32), ab_C w d mt_K_netWithout [.ref kx, .int v1] (I, L, ab_RR, n, nc, ns) (.inl (some (.int r29)), (I, L, ab_RR, n, nc, ns)) ∧ (((r29 &&& (I kx_now 4)) = (I kx_now 4) → (((r29 &&& (I kx_now 5)) = 0 → ((¬ v2 = 0 → (((999 - (ab_max32 r5 0)) ≤ 0 → (res = (.inl (some (.int (-1))), (I, L, ab_RR, n, nc, ns)))) ∧ (¬ (999 - (ab_max32 r5 0)) ≤ 0 → (res = (.inl (some (.int ((ab_max32 r5 0) + 1))), (I, L, ab_RR, n, nc, ns)))))) ∧ (v2 = 0 → (res = (.inl (some (.int (0 + (999 - (ab_max32 r5 0))))), (I, L, ab_RR, n, nc, ns)))))) ∧ (¬ (r29 &&& (I kx_now 5)) = 0 → ((¬ v2 = 0 → (res = (.inl (some (.int (-1))), (I, L, ab_RR, n, nc, ns)))) ∧ (v2 = 0 → (res = (.inl (some (.int (0 + 0))), (I, L, ab_RR, n, nc, ns)))))))) ∧ (¬ (r29 &&& (I kx_now 4)) = (I kx_now 4) → ((¬ v2 = 0 → (res = (.inl (some (.int (-1))), (I, L, ab_RR, n, nc, ns)))) ∧ (v2 = 0 → (res = (.inl (some (.int (0 + 0))), (I, L, ab_RR, n, nc, ns)))))))))))) ∨ (∃ E : String, ab_C w d mt_K_needSound [.ref kx, .int v1] (I, L, ab_RR, n, nc, ns) (.inr E, (I, L, ab_RR, n, nc + 1, ns + 6)) ∧ res = (.inr E, (I, L, ab_RR, n, nc + 1, ns + 6))))) ∧ (¬ v2 ≤ 1 → (res = (.inr "java/util/NoSuchElementException", (I, L, ab_RR, n, nc + 1, ns + 6)))))))) ∨ (∃ E : String, ab_C w d mt_K_needCable [.ref kx, .int v1] (I, L, ab_RR, n, nc, ns) (.inr E, (I, L, ab_RR, n, nc + 1, ns + 6)) ∧ res = (.inr E, (I, L, ab_RR, n, nc + 1, ns + 6))))) : ab_E w (d + 1) mt_K_fits 0 [.ref kx, .int v1, .int v2, .null, .null, .null] [] (I, L, ab_RR, n, nc, ns) res := by
  refine ab_aload_n (i := 0) d_K_fits_0 rfl rfl ?_
  refine ab_iload_n (i := 1) d_K_fits_1 rfl rfl ?_
  rcases h with ⟨hC, h⟩ | ⟨E9, hC, h⟩
  · refine ab_callV (me2 := mt_K_needCable) (b := kx) (as := [.int v1]) (st := []) (rv := none) (M2 := (I, L, ab_RR, n, nc, ns)) d_K_fits_2 ce_K_needCable v_1071 v_1073 v_43 (by decide) rfl (Nat.le_of_ble_eq_true rfl) hC (Nat.le_refl _) (Nat.le_refl _) hc hs (fun j h9 => by cases h9) (fun _ _ => rfl) ?_
    show ab_E w (d + 1) mt_K_fits 5 [.ref kx, .int v1, .int v2, .null, .null, .null] [] (I, L, ab_RR, n, nc, ns) res
    refine ab_iload_n (i := 2) d_K_fits_5 rfl rfl ?_
    refine ab_if_lt (tgt := 14) d_K_fits_6 (by decide) (fun c2 => ?_) (fun c2 => ?_)
    · have h := h.1 c2
      exact ab_throw (E := "java/util/NoSuchElementException") d_K_fits_14 d_K_fits_17 d_K_fits_18 d_K_fits_21 (by decide +kernel) rfl v_1049 v_163 x3_K_185 x4_K_185 h8 (Nat.le_of_ble_eq_true rfl) h
    · have h := h.2 c2
      refine ab_iload_n (i := 2) d_K_fits_9 rfl rfl ?_
      refine ab_iconst (v := 1) d_K_fits_10 rfl ?_
      refine ab_icmp_le (tgt := 22) d_K_fits_11 (by decide) (fun c3 => ?_) (fun c3 => ?_)
      · have h := h.1 c3
        refine ab_aload_n (i := 0) d_K_fits_22 rfl rfl ?_
        refine ab_iload_n (i := 1) d_K_fits_23 rfl rfl ?_
        rcases h with ⟨hC, h⟩ | ⟨E9, hC, h⟩
        · refine ab_callV (me2 := mt_K_needSound) (b := kx) (as := [.int v1]) (st := []) (rv := none) (M2 := (I, L, ab_RR, n, nc, ns)) d_K_fits_24 ce_K_needSound v_1297 v_1299 v_61 (by decide) rfl (Nat.le_of_ble_eq_true rfl) hC (Nat.le_refl _) (Nat.le_refl _) hc hs (fun j h9 => by cases h9) (fun _ _ => rfl) ?_
          show ab_E w (d + 1) mt_K_fits 27 [.ref kx, .int v1, .int v2, .null, .null, .null] [] (I, L, ab_RR, n, nc, ns) res
          refine ab_aload_n (i := 0) d_K_fits_27 rfl rfl ?_
          refine ab_iload_n (i := 1) d_K_fits_28 rfl rfl ?_
          obtain ⟨r5, hC, h⟩ := h
          refine ab_callV (me2 := mt_K_barOf) (b := kx) (as := [.int v1]) (st := []) (rv := (some (.int r5))) (M2 := (I, L, ab_RR, n, nc, ns)) d_K_fits_29 ce_K_barOf v_1087 v_1089 v_46 (by decide) rfl (Nat.le_of_ble_eq_true rfl) hC (Nat.le_refl _) (Nat.le_refl _) hc hs (fun j h9 => by cases h9) (fun _ _ => rfl) ?_
          show ab_E w (d + 1) mt_K_fits 32 [.ref kx, .int v1, .int v2, .null, .null, .null] [.int r5] (I, L, ab_RR, n, nc, ns) res
          refine ab_iconst (v := 0) d_K_fits_32 rfl ?_
          refine ab_max d_K_fits_33 v_450 v_451 v_150 v_452 (Nat.succ_le_succ (Nat.zero_le _)) (Nat.le_of_ble_eq_true rfl) hc hs ?_
          refine ab_istore_n (i := 3) d_K_fits_36 rfl (by decide) (Or.inr rfl) ?_
          refine ab_aload_n (i := 0) d_K_fits_37 rfl rfl ?_
          refine ab_getR (ci := 10) (k := 3) (j := kx_now) d_K_fits_38 v_475 rfl (by decide) (by decide) rfl r_kx_3 ?_
          refine ab_aload_n (i := 0) d_K_fits_41 rfl rfl ?_
          refine ab_iload_n (i := 1) d_K_fits_42 rfl rfl ?_
          obtain ⟨r6, hC, h⟩ := h
          refine ab_callV (me2 := mt_K_netWith) (b := kx) (as := [.int v1]) (st := [.ref kx_now]) (rv := (some (.int r6))) (M2 := (I, L, ab_RR, n, nc, ns)) d_K_fits_43 ce_K_netWith v_1316 v_1318 v_62 (by decide) rfl (Nat.le_of_ble_eq_true rfl) hC (Nat.le_refl _) (Nat.le_refl _) hc hs (fun j h9 => by cases h9) (fun _ _ => rfl) ?_
          show ab_E w (d + 1) mt_K_fits 46 [.ref kx, .int v1, .int v2, .int (ab_max32 r5 0), .null, .null] [.int r6, .ref kx_now] (I, L, ab_RR, n, nc, ns) res
          by_cases c8 : (r6 &&& (I kx_now 4)) = (I kx_now 4)
          · have h := h.1 c8
            by_cases c9 : (r6 &&& (I kx_now 5)) = 0
            · have h := h.1 c9
              refine ab_callV (me2 := mt_State_fitsNoted) (b := kx_now) (as := [.int r6]) (st := []) (rv := (some (.int 1))) (M2 := (I, L, ab_RR, n, nc, ns)) d_K_fits_46 ce_State_fitsNoted v_1324 v_1325 v_1326 (by decide) rfl (Nat.le_of_ble_eq_true rfl) (cx_State_fitsNoted_2 r6 hT c8 c9) (Nat.le_refl _) (Nat.le_refl _) hc hs (fun j h9 => by cases h9) (fun _ _ => rfl) ?_
              show ab_E w (d + 1) mt_K_fits 49 [.ref kx, .int v1, .int v2, .int (ab_max32 r5 0), .null, .null] [.int 1] (I, L, ab_RR, n, nc, ns) res
              refine ab_if_eq (tgt := 56) d_K_fits_49 (by decide) (fun c9 => absurd c9 (show ¬ (1 : Int32) = 0 from by decide)) (fun _ => ?_)
              refine ab_iload_n (i := 3) d_K_fits_52 rfl rfl ?_
              refine ab_goto (tgt := 57) d_K_fits_53 (by decide) ?_
              refine ab_istore (i := 4) d_K_fits_57 (by decide) (Or.inr rfl) ?_
              refine ab_aload_n (i := 0) d_K_fits_59 rfl rfl ?_
              refine ab_getR (ci := 10) (k := 3) (j := kx_now) d_K_fits_60 v_475 rfl (by decide) (by decide) rfl r_kx_3 ?_
              refine ab_aload_n (i := 0) d_K_fits_63 rfl rfl ?_
              refine ab_iload_n (i := 1) d_K_fits_64 rfl rfl ?_
              obtain ⟨r10, hC, h⟩ := h
              refine ab_callV (me2 := mt_K_netWithout) (b := kx) (as := [.int v1]) (st := [.ref kx_now]) (rv := (some (.int r10))) (M2 := (I, L, ab_RR, n, nc, ns)) d_K_fits_65 ce_K_netWithout v_1328 v_1330 v_64 (by decide) rfl (Nat.le_of_ble_eq_true rfl) hC (Nat.le_refl _) (Nat.le_refl _) hc hs (fun j h9 => by cases h9) (fun _ _ => rfl) ?_
              show ab_E w (d + 1) mt_K_fits 68 [.ref kx, .int v1, .int v2, .int (ab_max32 r5 0), .int (ab_max32 r5 0), .null] [.int r10, .ref kx_now] (I, L, ab_RR, n, nc, ns) res
              by_cases c12 : (r10 &&& (I kx_now 4)) = (I kx_now 4)
              · have h := h.1 c12
                by_cases c13 : (r10 &&& (I kx_now 5)) = 0
                · have h := h.1 c13
                  refine ab_callV (me2 := mt_State_fitsNoted) (b := kx_now) (as := [.int r10]) (st := []) (rv := (some (.int 1))) (M2 := (I, L, ab_RR, n, nc, ns)) d_K_fits_68 ce_State_fitsNoted v_1324 v_1325 v_1326 (by decide) rfl (Nat.le_of_ble_eq_true rfl) (cx_State_fitsNoted_2 r10 hT c12 c13) (Nat.le_refl _) (Nat.le_refl _) hc hs (fun j h9 => by cases h9) (fun _ _ => rfl) ?_
                  show ab_E w (d + 1) mt_K_fits 71 [.ref kx, .int v1, .int v2, .int (ab_max32 r5 0), .int (ab_max32 r5 0), .null] [.int 1] (I, L, ab_RR, n, nc, ns) res
                  refine ab_if_eq (tgt := 82) d_K_fits_71 (by decide) (fun c9 => absurd c9 (show ¬ (1 : Int32) = 0 from by decide)) (fun _ => ?_)
                  refine ab_sipush (v := 999) d_K_fits_74 rfl ?_
                  refine ab_iload_n (i := 3) d_K_fits_77 rfl rfl ?_
                  refine ab_isub d_K_fits_78 ?_
                  refine ab_goto (tgt := 83) d_K_fits_79 (by decide) ?_
                  refine ab_istore (i := 5) d_K_fits_83 (by decide) (Or.inr rfl) ?_
                  refine ab_iload_n (i := 2) d_K_fits_85 rfl rfl ?_
                  refine ab_if_ne (tgt := 95) d_K_fits_86 (by decide) (fun c14 => ?_) (fun c14 => ?_)
                  · have h := h.1 c14
                    refine ab_iload (i := 4) d_K_fits_95 rfl ?_
                    refine ab_if_le (tgt := 102) d_K_fits_97 (by decide) (fun c15 => ?_) (fun c15 => ?_)
                    · have h := h.1 c15
                      refine ab_iload (i := 5) d_K_fits_102 rfl ?_
                      refine ab_if_le (tgt := 113) d_K_fits_104 (by decide) (fun c16 => ?_) (fun c16 => ?_)
                      · have h := h.1 c16
                        refine ab_iconst (v := (-1)) d_K_fits_113 rfl ?_
                        exact ab_iret (ty := .int) d_K_fits_114 rfl rfl h
                      · have h := h.2 c16
                        refine ab_iload_n (i := 3) d_K_fits_107 rfl rfl ?_
                        refine ab_iconst (v := 1) d_K_fits_108 rfl ?_
                        refine ab_iadd d_K_fits_109 ?_
                        refine ab_goto (tgt := 114) d_K_fits_110 (by decide) ?_
                        exact ab_iret (ty := .int) d_K_fits_114 rfl rfl h
                    · have h := h.2 c15
                      refine ab_iconst (v := 1) d_K_fits_100 rfl ?_
                      exact ab_iret (ty := .int) d_K_fits_101 rfl rfl h
                  · have h := h.2 c14
                    refine ab_iload (i := 4) d_K_fits_89 rfl ?_
                    refine ab_iload (i := 5) d_K_fits_91 rfl ?_
                    refine ab_iadd d_K_fits_93 ?_
                    exact ab_iret (ty := .int) d_K_fits_94 rfl rfl h
                · have h := h.2 c13
                  refine ab_callV (me2 := mt_State_fitsNoted) (b := kx_now) (as := [.int r10]) (st := []) (rv := (some (.int 0))) (M2 := (I, L, ab_RR, n, nc, ns)) d_K_fits_68 ce_State_fitsNoted v_1324 v_1325 v_1326 (by decide) rfl (Nat.le_of_ble_eq_true rfl) (cx_State_fitsNoted_1 r10 hT c12 c13) (Nat.le_refl _) (Nat.le_refl _) hc hs (fun j h9 => by cases h9) (fun _ _ => rfl) ?_
                  show ab_E w (d + 1) mt_K_fits 71 [.ref kx, .int v1, .int v2, .int (ab_max32 r5 0), .int (ab_max32 r5 0), .null] [.int 0] (I, L, ab_RR, n, nc, ns) res
                  refine ab_if_eq (tgt := 82) d_K_fits_71 (by decide) (fun _ => ?_) (fun c9 => absurd (show (0 : Int32) = 0 from by decide) c9)
                  refine ab_iconst (v := 0) d_K_fits_82 rfl ?_
                  refine ab_istore (i := 5) d_K_fits_83 (by decide) (Or.inr rfl) ?_
                  refine ab_iload_n (i := 2) d_K_fits_85 rfl rfl ?_
                  refine ab_if_ne (tgt := 95) d_K_fits_86 (by decide) (fun c17 => ?_) (fun c17 => ?_)
                  · have h := h.1 c17
                    refine ab_iload (i := 4) d_K_fits_95 rfl ?_
                    refine ab_if_le (tgt := 102) d_K_fits_97 (by decide) (fun c18 => ?_) (fun c18 => ?_)
                    · have h := h.1 c18
                      refine ab_iload (i := 5) d_K_fits_102 rfl ?_
                      refine ab_if_le (tgt := 113) d_K_fits_104 (by decide) (fun _ => ?_) (fun c9 => absurd (show (0 : Int32) ≤ 0 from by decide) c9)
                      refine ab_iconst (v := (-1)) d_K_fits_113 rfl ?_
                      exact ab_iret (ty := .int) d_K_fits_114 rfl rfl h
                    · have h := h.2 c18
                      refine ab_iconst (v := 1) d_K_fits_100 rfl ?_
                      exact ab_iret (ty := .int) d_K_fits_101 rfl rfl h
                  · have h := h.2 c17
                    refine ab_iload (i := 4) d_K_fits_89 rfl ?_
                    refine ab_iload (i := 5) d_K_fits_91 rfl ?_
                    refine ab_iadd d_K_fits_93 ?_
                    exact ab_iret (ty := .int) d_K_fits_94 rfl rfl h
              · have h := h.2 c12
                refine ab_callV (me2 := mt_State_fitsNoted) (b := kx_now) (as := [.int r10]) (st := []) (rv := (some (.int 0))) (M2 := (I, L, ab_RR, n, nc, ns)) d_K_fits_68 ce_State_fitsNoted v_1324 v_1325 v_1326 (by decide) rfl (Nat.le_of_ble_eq_true rfl) (cx_State_fitsNoted_0 r10 hT c12) (Nat.le_refl _) (Nat.le_refl _) hc hs (fun j h9 => by cases h9) (fun _ _ => rfl) ?_
                show ab_E w (d + 1) mt_K_fits 71 [.ref kx, .int v1, .int v2, .int (ab_max32 r5 0), .int (ab_max32 r5 0), .null] [.int 0] (I, L, ab_RR, n, nc, ns) res
                refine ab_if_eq (tgt := 82) d_K_fits_71 (by decide) (fun _ => ?_) (fun c9 => absurd (show (0 : Int32) = 0 from by decide) c9)
                refine ab_iconst (v := 0) d_K_fits_82 rfl ?_
                refine ab_istore (i := 5) d_K_fits_83 (by decide) (Or.inr rfl) ?_
                refine ab_iload_n (i := 2) d_K_fits_85 rfl rfl ?_
                refine ab_if_ne (tgt := 95) d_K_fits_86 (by decide) (fun c19 => ?_) (fun c19 => ?_)
                · have h := h.1 c19
                  refine ab_iload (i := 4) d_K_fits_95 rfl ?_
                  refine ab_if_le (tgt := 102) d_K_fits_97 (by decide) (fun c20 => ?_) (fun c20 => ?_)
                  · have h := h.1 c20
                    refine ab_iload (i := 5) d_K_fits_102 rfl ?_
                    refine ab_if_le (tgt := 113) d_K_fits_104 (by decide) (fun _ => ?_) (fun c9 => absurd (show (0 : Int32) ≤ 0 from by decide) c9)
                    refine ab_iconst (v := (-1)) d_K_fits_113 rfl ?_
                    exact ab_iret (ty := .int) d_K_fits_114 rfl rfl h
                  · have h := h.2 c20
                    refine ab_iconst (v := 1) d_K_fits_100 rfl ?_
                    exact ab_iret (ty := .int) d_K_fits_101 rfl rfl h
                · have h := h.2 c19
                  refine ab_iload (i := 4) d_K_fits_89 rfl ?_
                  refine ab_iload (i := 5) d_K_fits_91 rfl ?_
                  refine ab_iadd d_K_fits_93 ?_
                  exact ab_iret (ty := .int) d_K_fits_94 rfl rfl h
            · have h := h.2 c9
              refine ab_callV (me2 := mt_State_fitsNoted) (b := kx_now) (as := [.int r6]) (st := []) (rv := (some (.int 0))) (M2 := (I, L, ab_RR, n, nc, ns)) d_K_fits_46 ce_State_fitsNoted v_1324 v_1325 v_1326 (by decide) rfl (Nat.le_of_ble_eq_true rfl) (cx_State_fitsNoted_1 r6 hT c8 c9) (Nat.le_refl _) (Nat.le_refl _) hc hs (fun j h9 => by cases h9) (fun _ _ => rfl) ?_
              show ab_E w (d + 1) mt_K_fits 49 [.ref kx, .int v1, .int v2, .int (ab_max32 r5 0), .null, .null] [.int 0] (I, L, ab_RR, n, nc, ns) res
              refine ab_if_eq (tgt := 56) d_K_fits_49 (by decide) (fun _ => ?_) (fun c9 => absurd (show (0 : Int32) = 0 from by decide) c9)
              refine ab_iconst (v := 0) d_K_fits_56 rfl ?_
              refine ab_istore (i := 4) d_K_fits_57 (by decide) (Or.inr rfl) ?_
              refine ab_aload_n (i := 0) d_K_fits_59 rfl rfl ?_
              refine ab_getR (ci := 10) (k := 3) (j := kx_now) d_K_fits_60 v_475 rfl (by decide) (by decide) rfl r_kx_3 ?_
              refine ab_aload_n (i := 0) d_K_fits_63 rfl rfl ?_
              refine ab_iload_n (i := 1) d_K_fits_64 rfl rfl ?_
              obtain ⟨r21, hC, h⟩ := h
              refine ab_callV (me2 := mt_K_netWithout) (b := kx) (as := [.int v1]) (st := [.ref kx_now]) (rv := (some (.int r21))) (M2 := (I, L, ab_RR, n, nc, ns)) d_K_fits_65 ce_K_netWithout v_1328 v_1330 v_64 (by decide) rfl (Nat.le_of_ble_eq_true rfl) hC (Nat.le_refl _) (Nat.le_refl _) hc hs (fun j h9 => by cases h9) (fun _ _ => rfl) ?_
              show ab_E w (d + 1) mt_K_fits 68 [.ref kx, .int v1, .int v2, .int (ab_max32 r5 0), .int 0, .null] [.int r21, .ref kx_now] (I, L, ab_RR, n, nc, ns) res
              by_cases c23 : (r21 &&& (I kx_now 4)) = (I kx_now 4)
              · have h := h.1 c23
                by_cases c24 : (r21 &&& (I kx_now 5)) = 0
                · have h := h.1 c24
                  refine ab_callV (me2 := mt_State_fitsNoted) (b := kx_now) (as := [.int r21]) (st := []) (rv := (some (.int 1))) (M2 := (I, L, ab_RR, n, nc, ns)) d_K_fits_68 ce_State_fitsNoted v_1324 v_1325 v_1326 (by decide) rfl (Nat.le_of_ble_eq_true rfl) (cx_State_fitsNoted_2 r21 hT c23 c24) (Nat.le_refl _) (Nat.le_refl _) hc hs (fun j h9 => by cases h9) (fun _ _ => rfl) ?_
                  show ab_E w (d + 1) mt_K_fits 71 [.ref kx, .int v1, .int v2, .int (ab_max32 r5 0), .int 0, .null] [.int 1] (I, L, ab_RR, n, nc, ns) res
                  refine ab_if_eq (tgt := 82) d_K_fits_71 (by decide) (fun c9 => absurd c9 (show ¬ (1 : Int32) = 0 from by decide)) (fun _ => ?_)
                  refine ab_sipush (v := 999) d_K_fits_74 rfl ?_
                  refine ab_iload_n (i := 3) d_K_fits_77 rfl rfl ?_
                  refine ab_isub d_K_fits_78 ?_
                  refine ab_goto (tgt := 83) d_K_fits_79 (by decide) ?_
                  refine ab_istore (i := 5) d_K_fits_83 (by decide) (Or.inr rfl) ?_
                  refine ab_iload_n (i := 2) d_K_fits_85 rfl rfl ?_
                  refine ab_if_ne (tgt := 95) d_K_fits_86 (by decide) (fun c25 => ?_) (fun c25 => ?_)
                  · have h := h.1 c25
                    refine ab_iload (i := 4) d_K_fits_95 rfl ?_
                    refine ab_if_le (tgt := 102) d_K_fits_97 (by decide) (fun _ => ?_) (fun c9 => absurd (show (0 : Int32) ≤ 0 from by decide) c9)
                    refine ab_iload (i := 5) d_K_fits_102 rfl ?_
                    refine ab_if_le (tgt := 113) d_K_fits_104 (by decide) (fun c26 => ?_) (fun c26 => ?_)
                    · have h := h.1 c26
                      refine ab_iconst (v := (-1)) d_K_fits_113 rfl ?_
                      exact ab_iret (ty := .int) d_K_fits_114 rfl rfl h
                    · have h := h.2 c26
                      refine ab_iload_n (i := 3) d_K_fits_107 rfl rfl ?_
                      refine ab_iconst (v := 1) d_K_fits_108 rfl ?_
                      refine ab_iadd d_K_fits_109 ?_
                      refine ab_goto (tgt := 114) d_K_fits_110 (by decide) ?_
                      exact ab_iret (ty := .int) d_K_fits_114 rfl rfl h
                  · have h := h.2 c25
                    refine ab_iload (i := 4) d_K_fits_89 rfl ?_
                    refine ab_iload (i := 5) d_K_fits_91 rfl ?_
                    refine ab_iadd d_K_fits_93 ?_
                    exact ab_iret (ty := .int) d_K_fits_94 rfl rfl h
                · have h := h.2 c24
                  refine ab_callV (me2 := mt_State_fitsNoted) (b := kx_now) (as := [.int r21]) (st := []) (rv := (some (.int 0))) (M2 := (I, L, ab_RR, n, nc, ns)) d_K_fits_68 ce_State_fitsNoted v_1324 v_1325 v_1326 (by decide) rfl (Nat.le_of_ble_eq_true rfl) (cx_State_fitsNoted_1 r21 hT c23 c24) (Nat.le_refl _) (Nat.le_refl _) hc hs (fun j h9 => by cases h9) (fun _ _ => rfl) ?_
                  show ab_E w (d + 1) mt_K_fits 71 [.ref kx, .int v1, .int v2, .int (ab_max32 r5 0), .int 0, .null] [.int 0] (I, L, ab_RR, n, nc, ns) res
                  refine ab_if_eq (tgt := 82) d_K_fits_71 (by decide) (fun _ => ?_) (fun c9 => absurd (show (0 : Int32) = 0 from by decide) c9)
                  refine ab_iconst (v := 0) d_K_fits_82 rfl ?_
                  refine ab_istore (i := 5) d_K_fits_83 (by decide) (Or.inr rfl) ?_
                  refine ab_iload_n (i := 2) d_K_fits_85 rfl rfl ?_
                  refine ab_if_ne (tgt := 95) d_K_fits_86 (by decide) (fun c27 => ?_) (fun c27 => ?_)
                  · have h := h.1 c27
                    refine ab_iload (i := 4) d_K_fits_95 rfl ?_
                    refine ab_if_le (tgt := 102) d_K_fits_97 (by decide) (fun _ => ?_) (fun c9 => absurd (show (0 : Int32) ≤ 0 from by decide) c9)
                    refine ab_iload (i := 5) d_K_fits_102 rfl ?_
                    refine ab_if_le (tgt := 113) d_K_fits_104 (by decide) (fun _ => ?_) (fun c9 => absurd (show (0 : Int32) ≤ 0 from by decide) c9)
                    refine ab_iconst (v := (-1)) d_K_fits_113 rfl ?_
                    exact ab_iret (ty := .int) d_K_fits_114 rfl rfl h
                  · have h := h.2 c27
                    refine ab_iload (i := 4) d_K_fits_89 rfl ?_
                    refine ab_iload (i := 5) d_K_fits_91 rfl ?_
                    refine ab_iadd d_K_fits_93 ?_
                    exact ab_iret (ty := .int) d_K_fits_94 rfl rfl h
              · have h := h.2 c23
                refine ab_callV (me2 := mt_State_fitsNoted) (b := kx_now) (as := [.int r21]) (st := []) (rv := (some (.int 0))) (M2 := (I, L, ab_RR, n, nc, ns)) d_K_fits_68 ce_State_fitsNoted v_1324 v_1325 v_1326 (by decide) rfl (Nat.le_of_ble_eq_true rfl) (cx_State_fitsNoted_0 r21 hT c23) (Nat.le_refl _) (Nat.le_refl _) hc hs (fun j h9 => by cases h9) (fun _ _ => rfl) ?_
                show ab_E w (d + 1) mt_K_fits 71 [.ref kx, .int v1, .int v2, .int (ab_max32 r5 0), .int 0, .null] [.int 0] (I, L, ab_RR, n, nc, ns) res
                refine ab_if_eq (tgt := 82) d_K_fits_71 (by decide) (fun _ => ?_) (fun c9 => absurd (show (0 : Int32) = 0 from by decide) c9)
                refine ab_iconst (v := 0) d_K_fits_82 rfl ?_
                refine ab_istore (i := 5) d_K_fits_83 (by decide) (Or.inr rfl) ?_
                refine ab_iload_n (i := 2) d_K_fits_85 rfl rfl ?_
                refine ab_if_ne (tgt := 95) d_K_fits_86 (by decide) (fun c28 => ?_) (fun c28 => ?_)
                · have h := h.1 c28
                  refine ab_iload (i := 4) d_K_fits_95 rfl ?_
                  refine ab_if_le (tgt := 102) d_K_fits_97 (by decide) (fun _ => ?_) (fun c9 => absurd (show (0 : Int32) ≤ 0 from by decide) c9)
                  refine ab_iload (i := 5) d_K_fits_102 rfl ?_
                  refine ab_if_le (tgt := 113) d_K_fits_104 (by decide) (fun _ => ?_) (fun c9 => absurd (show (0 : Int32) ≤ 0 from by decide) c9)
                  refine ab_iconst (v := (-1)) d_K_fits_113 rfl ?_
                  exact ab_iret (ty := .int) d_K_fits_114 rfl rfl h
                · have h := h.2 c28
                  refine ab_iload (i := 4) d_K_fits_89 rfl ?_
                  refine ab_iload (i := 5) d_K_fits_91 rfl ?_
                  refine ab_iadd d_K_fits_93 ?_
                  exact ab_iret (ty := .int) d_K_fits_94 rfl rfl h
          · have h := h.2 c8
            refine ab_callV (me2 := mt_State_fitsNoted) (b := kx_now) (as := [.int r6]) (st := []) (rv := (some (.int 0))) (M2 := (I, L, ab_RR, n, nc, ns)) d_K_fits_46 ce_State_fitsNoted v_1324 v_1325 v_1326 (by decide) rfl (Nat.le_of_ble_eq_true rfl) (cx_State_fitsNoted_0 r6 hT c8) (Nat.le_refl _) (Nat.le_refl _) hc hs (fun j h9 => by cases h9) (fun _ _ => rfl) ?_
            show ab_E w (d + 1) mt_K_fits 49 [.ref kx, .int v1, .int v2, .int (ab_max32 r5 0), .null, .null] [.int 0] (I, L, ab_RR, n, nc, ns) res
            refine ab_if_eq (tgt := 56) d_K_fits_49 (by decide) (fun _ => ?_) (fun c9 => absurd (show (0 : Int32) = 0 from by decide) c9)
            refine ab_iconst (v := 0) d_K_fits_56 rfl ?_
            refine ab_istore (i := 4) d_K_fits_57 (by decide) (Or.inr rfl) ?_
            refine ab_aload_n (i := 0) d_K_fits_59 rfl rfl ?_
            refine ab_getR (ci := 10) (k := 3) (j := kx_now) d_K_fits_60 v_475 rfl (by decide) (by decide) rfl r_kx_3 ?_
            refine ab_aload_n (i := 0) d_K_fits_63 rfl rfl ?_
            refine ab_iload_n (i := 1) d_K_fits_64 rfl rfl ?_
            obtain ⟨r29, hC, h⟩ := h
            refine ab_callV (me2 := mt_K_netWithout) (b := kx) (as := [.int v1]) (st := [.ref kx_now]) (rv := (some (.int r29))) (M2 := (I, L, ab_RR, n, nc, ns)) d_K_fits_65 ce_K_netWithout v_1328 v_1330 v_64 (by decide) rfl (Nat.le_of_ble_eq_true rfl) hC (Nat.le_refl _) (Nat.le_refl _) hc hs (fun j h9 => by cases h9) (fun _ _ => rfl) ?_
            show ab_E w (d + 1) mt_K_fits 68 [.ref kx, .int v1, .int v2, .int (ab_max32 r5 0), .int 0, .null] [.int r29, .ref kx_now] (I, L, ab_RR, n, nc, ns) res
            by_cases c31 : (r29 &&& (I kx_now 4)) = (I kx_now 4)
            · have h := h.1 c31
              by_cases c32 : (r29 &&& (I kx_now 5)) = 0
              · have h := h.1 c32
                refine ab_callV (me2 := mt_State_fitsNoted) (b := kx_now) (as := [.int r29]) (st := []) (rv := (some (.int 1))) (M2 := (I, L, ab_RR, n, nc, ns)) d_K_fits_68 ce_State_fitsNoted v_1324 v_1325 v_1326 (by decide) rfl (Nat.le_of_ble_eq_true rfl) (cx_State_fitsNoted_2 r29 hT c31 c32) (Nat.le_refl _) (Nat.le_refl _) hc hs (fun j h9 => by cases h9) (fun _ _ => rfl) ?_
                show ab_E w (d + 1) mt_K_fits 71 [.ref kx, .int v1, .int v2, .int (ab_max32 r5 0), .int 0, .null] [.int 1] (I, L, ab_RR, n, nc, ns) res
                refine ab_if_eq (tgt := 82) d_K_fits_71 (by decide) (fun c9 => absurd c9 (show ¬ (1 : Int32) = 0 from by decide)) (fun _ => ?_)
                refine ab_sipush (v := 999) d_K_fits_74 rfl ?_
                refine ab_iload_n (i := 3) d_K_fits_77 rfl rfl ?_
                refine ab_isub d_K_fits_78 ?_
                refine ab_goto (tgt := 83) d_K_fits_79 (by decide) ?_
                refine ab_istore (i := 5) d_K_fits_83 (by decide) (Or.inr rfl) ?_
                refine ab_iload_n (i := 2) d_K_fits_85 rfl rfl ?_
                refine ab_if_ne (tgt := 95) d_K_fits_86 (by decide) (fun c33 => ?_) (fun c33 => ?_)
                · have h := h.1 c33
                  refine ab_iload (i := 4) d_K_fits_95 rfl ?_
                  refine ab_if_le (tgt := 102) d_K_fits_97 (by decide) (fun _ => ?_) (fun c9 => absurd (show (0 : Int32) ≤ 0 from by decide) c9)
                  refine ab_iload (i := 5) d_K_fits_102 rfl ?_
                  refine ab_if_le (tgt := 113) d_K_fits_104 (by decide) (fun c34 => ?_) (fun c34 => ?_)
                  · have h := h.1 c34
                    refine ab_iconst (v := (-1)) d_K_fits_113 rfl ?_
                    exact ab_iret (ty := .int) d_K_fits_114 rfl rfl h
                  · have h := h.2 c34
                    refine ab_iload_n (i := 3) d_K_fits_107 rfl rfl ?_
                    refine ab_iconst (v := 1) d_K_fits_108 rfl ?_
                    refine ab_iadd d_K_fits_109 ?_
                    refine ab_goto (tgt := 114) d_K_fits_110 (by decide) ?_
                    exact ab_iret (ty := .int) d_K_fits_114 rfl rfl h
                · have h := h.2 c33
                  refine ab_iload (i := 4) d_K_fits_89 rfl ?_
                  refine ab_iload (i := 5) d_K_fits_91 rfl ?_
                  refine ab_iadd d_K_fits_93 ?_
                  exact ab_iret (ty := .int) d_K_fits_94 rfl rfl h
              · have h := h.2 c32
                refine ab_callV (me2 := mt_State_fitsNoted) (b := kx_now) (as := [.int r29]) (st := []) (rv := (some (.int 0))) (M2 := (I, L, ab_RR, n, nc, ns)) d_K_fits_68 ce_State_fitsNoted v_1324 v_1325 v_1326 (by decide) rfl (Nat.le_of_ble_eq_true rfl) (cx_State_fitsNoted_1 r29 hT c31 c32) (Nat.le_refl _) (Nat.le_refl _) hc hs (fun j h9 => by cases h9) (fun _ _ => rfl) ?_
                show ab_E w (d + 1) mt_K_fits 71 [.ref kx, .int v1, .int v2, .int (ab_max32 r5 0), .int 0, .null] [.int 0] (I, L, ab_RR, n, nc, ns) res
                refine ab_if_eq (tgt := 82) d_K_fits_71 (by decide) (fun _ => ?_) (fun c9 => absurd (show (0 : Int32) = 0 from by decide) c9)
                refine ab_iconst (v := 0) d_K_fits_82 rfl ?_
                refine ab_istore (i := 5) d_K_fits_83 (by decide) (Or.inr rfl) ?_
                refine ab_iload_n (i := 2) d_K_fits_85 rfl rfl ?_
                refine ab_if_ne (tgt := 95) d_K_fits_86 (by decide) (fun c35 => ?_) (fun c35 => ?_)
                · have h := h.1 c35
                  refine ab_iload (i := 4) d_K_fits_95 rfl ?_
                  refine ab_if_le (tgt := 102) d_K_fits_97 (by decide) (fun _ => ?_) (fun c9 => absurd (show (0 : Int32) ≤ 0 from by decide) c9)
                  refine ab_iload (i := 5) d_K_fits_102 rfl ?_
                  refine ab_if_le (tgt := 113) d_K_fits_104 (by decide) (fun _ => ?_) (fun c9 => absurd (show (0 : Int32) ≤ 0 from by decide) c9)
                  refine ab_iconst (v := (-1)) d_K_fits_113 rfl ?_
                  exact ab_iret (ty := .int) d_K_fits_114 rfl rfl h
                · have h := h.2 c35
                  refine ab_iload (i := 4) d_K_fits_89 rfl ?_
                  refine ab_iload (i := 5) d_K_fits_91 rfl ?_
                  refine ab_iadd d_K_fits_93 ?_
                  exact ab_iret (ty := .int) d_K_fits_94 rfl rfl h
            · have h := h.2 c31
              refine ab_callV (me2 := mt_State_fitsNoted) (b := kx_now) (as := [.int r29]) (st := []) (rv := (some (.int 0))) (M2 := (I, L, ab_RR, n, nc, ns)) d_K_fits_68 ce_State_fitsNoted v_1324 v_1325 v_1326 (by decide) rfl (Nat.le_of_ble_eq_true rfl) (cx_State_fitsNoted_0 r29 hT c31) (Nat.le_refl _) (Nat.le_refl _) hc hs (fun j h9 => by cases h9) (fun _ _ => rfl) ?_
              show ab_E w (d + 1) mt_K_fits 71 [.ref kx, .int v1, .int v2, .int (ab_max32 r5 0), .int 0, .null] [.int 0] (I, L, ab_RR, n, nc, ns) res
              refine ab_if_eq (tgt := 82) d_K_fits_71 (by decide) (fun _ => ?_) (fun c9 => absurd (show (0 : Int32) = 0 from by decide) c9)
              refine ab_iconst (v := 0) d_K_fits_82 rfl ?_
              refine ab_istore (i := 5) d_K_fits_83 (by decide) (Or.inr rfl) ?_
              refine ab_iload_n (i := 2) d_K_fits_85 rfl rfl ?_
              refine ab_if_ne (tgt := 95) d_K_fits_86 (by decide) (fun c36 => ?_) (fun c36 => ?_)
              · have h := h.1 c36
                refine ab_iload (i := 4) d_K_fits_95 rfl ?_
                refine ab_if_le (tgt := 102) d_K_fits_97 (by decide) (fun _ => ?_) (fun c9 => absurd (show (0 : Int32) ≤ 0 from by decide) c9)
                refine ab_iload (i := 5) d_K_fits_102 rfl ?_
                refine ab_if_le (tgt := 113) d_K_fits_104 (by decide) (fun _ => ?_) (fun c9 => absurd (show (0 : Int32) ≤ 0 from by decide) c9)
                refine ab_iconst (v := (-1)) d_K_fits_113 rfl ?_
                exact ab_iret (ty := .int) d_K_fits_114 rfl rfl h
              · have h := h.2 c36
                refine ab_iload (i := 4) d_K_fits_89 rfl ?_
                refine ab_iload (i := 5) d_K_fits_91 rfl ?_
                refine ab_iadd d_K_fits_93 ?_
                exact ab_iret (ty := .int) d_K_fits_94 rfl rfl h
        · exact ab_callVX (me2 := mt_K_needSound) (b := kx) (as := [.int v1]) (st := []) (M2 := (I, L, ab_RR, n, nc + 1, ns + 6)) rfl d_K_fits_24 ce_K_needSound v_1297 v_1299 v_61 (by decide) rfl (Nat.le_of_ble_eq_true rfl) hC (Nat.le_succ _) (Nat.le_add_right _ _) (fun _ _ => rfl) h
      · have h := h.2 c3
        exact ab_throw (E := "java/util/NoSuchElementException") d_K_fits_14 d_K_fits_17 d_K_fits_18 d_K_fits_21 (by decide +kernel) rfl v_1049 v_163 x3_K_185 x4_K_185 h8 (Nat.le_of_ble_eq_true rfl) h
  · exact ab_callVX (me2 := mt_K_needCable) (b := kx) (as := [.int v1]) (st := []) (M2 := (I, L, ab_RR, n, nc + 1, ns + 6)) rfl d_K_fits_2 ce_K_needCable v_1071 v_1073 v_43 (by decide) rfl (Nat.le_of_ble_eq_true rfl) hC (Nat.le_succ _) (Nat.le_add_right _ _) (fun _ _ => rfl) h
theorem r_K_look_0 {w : ab_Wd} {d n nc ns : Nat} {I : Nat → Nat → Int32} {L : Nat → Nat → Int64} {res : ab_Re} (hT : w.1.stackTraces = false) (v1 : Int32) (hc : nc ≤ res.2.2.2.2.2.1) (hs : ns ≤ res.2.2.2.2.2.2)
    (h : ((ab_C w d mt_K_needCable [.ref kx, .int v1] (I, L, ab_RR, n, nc, ns) (.inl none, (I, L, ab_RR, n, nc, ns)) ∧ ((ab_C w d mt_K_needSound [.ref kx, .int v1] (I, L, ab_RR, n, nc, ns) (.inl none, (I, L, ab_RR, n, nc, ns)) ∧ (∃ (r3 : Int32), ab_C w d mt_K_barOf [.ref kx, .int v1] (I, L, ab_RR, n, nc, ns) (.inl (some (.int r3)), (I, L, ab_RR, n, nc, ns)) ∧ ((r3 ≤ 0 → ((999 ≤ r3 → (res = (.inl (some (.int (-1))), (I, L, ab_RR, n, nc, ns)))) ∧ (¬ 999 ≤ r3 → (∃ (r6 : Int32), ab_C w d mt_K_netWithout [.ref kx, .int v1] (I, L, ab_RR, n, nc, ns) (.inl (some (.int r6)), (I, L, ab_RR, n, nc, ns)) ∧ (((r6 &&& (I kx_now 4)) = (I kx_now 4) → (((r6 &&& (I kx_now 5)) = 0 → (res = (.inl (some (.int (-1))), (I, L, ab_RR, n, nc, ns)))) ∧ (¬ (r6 &&& (I kx_now 5)) = 0 → (res = (.inl (some (.int (-1))), (I, L, ab_RR, n, nc, ns)))))) ∧ (¬ (r6 &&& (I kx_now 4)) = (I kx_now 4) → (res = (.inl (some (.int (-1))), (I, L, ab_RR, n, nc, ns))))))))) ∧ (¬ r3 ≤ 0 → (∃ (r10 : Int32), ab_C w d mt_K_netWith [.ref kx, .int v1] (I, L, ab_RR, n, nc, ns) (.inl (some (.int r10)), (I, L, ab_RR, n, nc, ns)) ∧ (((r10 &&& (I kx_now 4)) = (I kx_now 4) → (((r10 &&& (I kx_now 5)) = 0 → ((999 ≤ r3 → (res = (.inl (some (.int (-1))), (I, L, ab_RR, n, nc, ns)))) ∧ (¬ 999 ≤ r3 → (∃ (r15 : Int32), ab_C w d mt_K_netWithout [.ref kx, .int v1] (I, L, ab_RR, n, nc, ns) (.inl (some (.int r15)), (I, L, ab_RR, n, nc, ns)) ∧ (((r15 &&& (I kx_now 4)) = (I kx_now 4) → (((r15 &&& (I kx_now 5)) = 0 → (∃ (r19 : Int32), ab_C w d mt_K_partnerOf [.ref kx, .int v1] (I, L, ab_RR, n, nc, ns) (.inl (some (.int r19)), (I, L, ab_RR, n, nc, ns)) ∧ res = (.inl (some (.int r19)), (I, L, ab_RR, n, nc, ns)))) ∧ (¬ (r15 &&& (I kx_now 5)) = 0 → (res = (.inl (some (.int (-1))), (I, L, ab_RR, n, nc, ns)))))) ∧ (¬ (r15 &&& (I kx_now 4)) = (I kx_now 4) → (res = (.inl (some (.int (-1))), (I, L, ab_RR, n, nc, ns))))))))) ∧ (¬ (r10 &&& (I kx_now 5)) = 0 → ((999 ≤ r3 → (res = (.inl (some (.int (-1))), (I, L, ab_RR, n, nc, ns)))) ∧ (¬ 999 ≤ r3 → (∃ (r21 : Int32), ab_C w d mt_K_netWithout [.ref kx, .int v1] (I, L, ab_RR, n, nc, ns) (.inl (some (.int r21)), (I, L, ab_RR, n, nc, ns)) ∧ (((r21 &&& (I kx_now 4)) = (I kx_now 4) → (((r21 &&& (I kx_now 5)) = 0 → (res = (.inl (some (.int (-1))), (I, L, ab_RR, n, nc, ns)))) ∧ (¬ (r21 &&& (I kx_now 5)) = 0 → (res = (.inl (some (.int (-1))), (I, L, ab_RR, n, nc, ns)))))) ∧ (¬ (r21 &&& (I kx_now 4)) = (I kx_now 4) → (res = (.inl (some (.int (-1))), (I, L, ab_RR, n, nc, ns))))))))))) ∧ (¬ (r10 &&& (I kx_now 4)) = (I kx_now 4) → ((999 ≤ r3 → (res = (.inl (some (.int (-1))), (I, L, ab_RR, n, nc, ns)))) ∧ (¬ 999 ≤ r3 → (∃ (r26 : Int32), ab_C w d mt_K_netWithout [.ref kx, .int v1] (I, L, ab_RR, n, nc, ns) (.inl (some (.int r26)), (I, L, ab_RR, n, nc, ns)) ∧ (((r26 &&& (I kx_now 4)) = (I kx_now 4) → (((r26 &&& (I kx_now 5)) = 0 → (res = (.inl (some (.int (-1))), (I, L, ab_RR, n, nc, ns)))) ∧ (¬ (r26 &&& (I kx_now 5)) = 0 → (res = (.inl (some (.int (-1))), (I, L, ab_RR, n, nc, ns)))))) ∧ (¬ (r26 &&& (I kx_now 4)) = (I kx_now 4) → (res = (.inl (some (.int (-1))), (I, L, ab_RR, n, nc, ns))))))))))))))) ∨ (∃ E : String, ab_C w d mt_K_needSound [.ref kx, .int v1] (I, L, ab_RR, n, nc, ns) (.inr E, (I, L, ab_RR, n, nc + 1, ns + 6)) ∧ res = (.inr E, (I, L, ab_RR, n, nc + 1, ns + 6))))) ∨ (∃ E : String, ab_C w d mt_K_needCable [.ref kx, .int v1] (I, L, ab_RR, n, nc, ns) (.inr E, (I, L, ab_RR, n, nc + 1, ns + 6)) ∧ res = (.inr E, (I, L, ab_RR, n, nc + 1, ns + 6))))) : ab_E w (d + 1) mt_K_look 0 [.ref kx, .int v1, .null, .null, .null] [] (I, L, ab_RR, n, nc, ns) res := by
  refine ab_aload_n (i := 0) d_K_look_0 rfl rfl ?_
  refine ab_iload_n (i := 1) d_K_look_1 rfl rfl ?_
  rcases h with ⟨hC, h⟩ | ⟨E9, hC, h⟩
  · refine ab_callV (me2 := mt_K_needCable) (b := kx) (as := [.int v1]) (st := []) (rv := none) (M2 := (I, L, ab_RR, n, nc, ns)) d_K_look_2 ce_K_needCable v_1071 v_1073 v_43 (by decide) rfl (Nat.le_of_ble_eq_true rfl) hC (Nat.le_refl _) (Nat.le_refl _) hc hs (fun j h9 => by cases h9) (fun _ _ => rfl) ?_
    show ab_E w (d + 1) mt_K_look 5 [.ref kx, .int v1, .null, .null, .null] [] (I, L, ab_RR, n, nc, ns) res
    refine ab_aload_n (i := 0) d_K_look_5 rfl rfl ?_
    refine ab_iload_n (i := 1) d_K_look_6 rfl rfl ?_
    rcases h with ⟨hC, h⟩ | ⟨E9, hC, h⟩
    · refine ab_callV (me2 := mt_K_needSound) (b := kx) (as := [.int v1]) (st := []) (rv := none) (M2 := (I, L, ab_RR, n, nc, ns)) d_K_look_7 ce_K_needSound v_1297 v_1299 v_61 (by decide) rfl (Nat.le_of_ble_eq_true rfl) hC (Nat.le_refl _) (Nat.le_refl _) hc hs (fun j h9 => by cases h9) (fun _ _ => rfl) ?_
      show ab_E w (d + 1) mt_K_look 10 [.ref kx, .int v1, .null, .null, .null] [] (I, L, ab_RR, n, nc, ns) res
      refine ab_aload_n (i := 0) d_K_look_10 rfl rfl ?_
      refine ab_iload_n (i := 1) d_K_look_11 rfl rfl ?_
      obtain ⟨r3, hC, h⟩ := h
      refine ab_callV (me2 := mt_K_barOf) (b := kx) (as := [.int v1]) (st := []) (rv := (some (.int r3))) (M2 := (I, L, ab_RR, n, nc, ns)) d_K_look_12 ce_K_barOf v_1087 v_1089 v_46 (by decide) rfl (Nat.le_of_ble_eq_true rfl) hC (Nat.le_refl _) (Nat.le_refl _) hc hs (fun j h9 => by cases h9) (fun _ _ => rfl) ?_
      show ab_E w (d + 1) mt_K_look 15 [.ref kx, .int v1, .null, .null, .null] [.int r3] (I, L, ab_RR, n, nc, ns) res
      refine ab_istore_n (i := 2) d_K_look_15 rfl (by decide) (Or.inr rfl) ?_
      refine ab_iload_n (i := 2) d_K_look_16 rfl rfl ?_
      refine ab_if_le (tgt := 39) d_K_look_17 (by decide) (fun c4 => ?_) (fun c4 => ?_)
      · have h := h.1 c4
        refine ab_iconst (v := 0) d_K_look_39 rfl ?_
        refine ab_istore_n (i := 3) d_K_look_40 rfl (by decide) (Or.inr rfl) ?_
        refine ab_iload_n (i := 2) d_K_look_41 rfl rfl ?_
        refine ab_sipush (v := 999) d_K_look_42 rfl ?_
        refine ab_icmp_ge (tgt := 67) d_K_look_45 (by decide) (fun c5 => ?_) (fun c5 => ?_)
        · have h := h.1 c5
          refine ab_iconst (v := 0) d_K_look_67 rfl ?_
          refine ab_istore (i := 4) d_K_look_68 (by decide) (Or.inr rfl) ?_
          refine ab_iload_n (i := 3) d_K_look_70 rfl rfl ?_
          refine ab_if_eq (tgt := 87) d_K_look_71 (by decide) (fun _ => ?_) (fun c9 => absurd (show (0 : Int32) = 0 from by decide) c9)
          refine ab_iconst (v := (-1)) d_K_look_87 rfl ?_
          exact ab_iret (ty := .int) d_K_look_88 rfl rfl h
        · have h := h.2 c5
          refine ab_aload_n (i := 0) d_K_look_48 rfl rfl ?_
          refine ab_getR (ci := 10) (k := 3) (j := kx_now) d_K_look_49 v_475 rfl (by decide) (by decide) rfl r_kx_3 ?_
          refine ab_aload_n (i := 0) d_K_look_52 rfl rfl ?_
          refine ab_iload_n (i := 1) d_K_look_53 rfl rfl ?_
          obtain ⟨r6, hC, h⟩ := h
          refine ab_callV (me2 := mt_K_netWithout) (b := kx) (as := [.int v1]) (st := [.ref kx_now]) (rv := (some (.int r6))) (M2 := (I, L, ab_RR, n, nc, ns)) d_K_look_54 ce_K_netWithout v_1328 v_1330 v_64 (by decide) rfl (Nat.le_of_ble_eq_true rfl) hC (Nat.le_refl _) (Nat.le_refl _) hc hs (fun j h9 => by cases h9) (fun _ _ => rfl) ?_
          show ab_E w (d + 1) mt_K_look 57 [.ref kx, .int v1, .int r3, .int 0, .null] [.int r6, .ref kx_now] (I, L, ab_RR, n, nc, ns) res
          by_cases c8 : (r6 &&& (I kx_now 4)) = (I kx_now 4)
          · have h := h.1 c8
            by_cases c9 : (r6 &&& (I kx_now 5)) = 0
            · have h := h.1 c9
              refine ab_callV (me2 := mt_State_fitsNoted) (b := kx_now) (as := [.int r6]) (st := []) (rv := (some (.int 1))) (M2 := (I, L, ab_RR, n, nc, ns)) d_K_look_57 ce_State_fitsNoted v_1324 v_1325 v_1326 (by decide) rfl (Nat.le_of_ble_eq_true rfl) (cx_State_fitsNoted_2 r6 hT c8 c9) (Nat.le_refl _) (Nat.le_refl _) hc hs (fun j h9 => by cases h9) (fun _ _ => rfl) ?_
              show ab_E w (d + 1) mt_K_look 60 [.ref kx, .int v1, .int r3, .int 0, .null] [.int 1] (I, L, ab_RR, n, nc, ns) res
              refine ab_if_eq (tgt := 67) d_K_look_60 (by decide) (fun c9 => absurd c9 (show ¬ (1 : Int32) = 0 from by decide)) (fun _ => ?_)
              refine ab_iconst (v := 1) d_K_look_63 rfl ?_
              refine ab_goto (tgt := 68) d_K_look_64 (by decide) ?_
              refine ab_istore (i := 4) d_K_look_68 (by decide) (Or.inr rfl) ?_
              refine ab_iload_n (i := 3) d_K_look_70 rfl rfl ?_
              refine ab_if_eq (tgt := 87) d_K_look_71 (by decide) (fun _ => ?_) (fun c9 => absurd (show (0 : Int32) = 0 from by decide) c9)
              refine ab_iconst (v := (-1)) d_K_look_87 rfl ?_
              exact ab_iret (ty := .int) d_K_look_88 rfl rfl h
            · have h := h.2 c9
              refine ab_callV (me2 := mt_State_fitsNoted) (b := kx_now) (as := [.int r6]) (st := []) (rv := (some (.int 0))) (M2 := (I, L, ab_RR, n, nc, ns)) d_K_look_57 ce_State_fitsNoted v_1324 v_1325 v_1326 (by decide) rfl (Nat.le_of_ble_eq_true rfl) (cx_State_fitsNoted_1 r6 hT c8 c9) (Nat.le_refl _) (Nat.le_refl _) hc hs (fun j h9 => by cases h9) (fun _ _ => rfl) ?_
              show ab_E w (d + 1) mt_K_look 60 [.ref kx, .int v1, .int r3, .int 0, .null] [.int 0] (I, L, ab_RR, n, nc, ns) res
              refine ab_if_eq (tgt := 67) d_K_look_60 (by decide) (fun _ => ?_) (fun c9 => absurd (show (0 : Int32) = 0 from by decide) c9)
              refine ab_iconst (v := 0) d_K_look_67 rfl ?_
              refine ab_istore (i := 4) d_K_look_68 (by decide) (Or.inr rfl) ?_
              refine ab_iload_n (i := 3) d_K_look_70 rfl rfl ?_
              refine ab_if_eq (tgt := 87) d_K_look_71 (by decide) (fun _ => ?_) (fun c9 => absurd (show (0 : Int32) = 0 from by decide) c9)
              refine ab_iconst (v := (-1)) d_K_look_87 rfl ?_
              exact ab_iret (ty := .int) d_K_look_88 rfl rfl h
          · have h := h.2 c8
            refine ab_callV (me2 := mt_State_fitsNoted) (b := kx_now) (as := [.int r6]) (st := []) (rv := (some (.int 0))) (M2 := (I, L, ab_RR, n, nc, ns)) d_K_look_57 ce_State_fitsNoted v_1324 v_1325 v_1326 (by decide) rfl (Nat.le_of_ble_eq_true rfl) (cx_State_fitsNoted_0 r6 hT c8) (Nat.le_refl _) (Nat.le_refl _) hc hs (fun j h9 => by cases h9) (fun _ _ => rfl) ?_
            show ab_E w (d + 1) mt_K_look 60 [.ref kx, .int v1, .int r3, .int 0, .null] [.int 0] (I, L, ab_RR, n, nc, ns) res
            refine ab_if_eq (tgt := 67) d_K_look_60 (by decide) (fun _ => ?_) (fun c9 => absurd (show (0 : Int32) = 0 from by decide) c9)
            refine ab_iconst (v := 0) d_K_look_67 rfl ?_
            refine ab_istore (i := 4) d_K_look_68 (by decide) (Or.inr rfl) ?_
            refine ab_iload_n (i := 3) d_K_look_70 rfl rfl ?_
            refine ab_if_eq (tgt := 87) d_K_look_71 (by decide) (fun _ => ?_) (fun c9 => absurd (show (0 : Int32) = 0 from by decide) c9)
            refine ab_iconst (v := (-1)) d_K_look_87 rfl ?_
            exact ab_iret (ty := .int) d_K_look_88 rfl rfl h
      · have h := h.2 c4
        refine ab_aload_n (i := 0) d_K_look_20 rfl rfl ?_
        refine ab_getR (ci := 10) (k := 3) (j := kx_now) d_K_look_21 v_475 rfl (by decide) (by decide) rfl r_kx_3 ?_
        refine ab_aload_n (i := 0) d_K_look_24 rfl rfl ?_
        refine ab_iload_n (i := 1) d_K_look_25 rfl rfl ?_
        obtain ⟨r10, hC, h⟩ := h
        refine ab_callV (me2 := mt_K_netWith) (b := kx) (as := [.int v1]) (st := [.ref kx_now]) (rv := (some (.int r10))) (M2 := (I, L, ab_RR, n, nc, ns)) d_K_look_26 ce_K_netWith v_1316 v_1318 v_62 (by decide) rfl (Nat.le_of_ble_eq_true rfl) hC (Nat.le_refl _) (Nat.le_refl _) hc hs (fun j h9 => by cases h9) (fun _ _ => rfl) ?_
        show ab_E w (d + 1) mt_K_look 29 [.ref kx, .int v1, .int r3, .null, .null] [.int r10, .ref kx_now] (I, L, ab_RR, n, nc, ns) res
        by_cases c12 : (r10 &&& (I kx_now 4)) = (I kx_now 4)
        · have h := h.1 c12
          by_cases c13 : (r10 &&& (I kx_now 5)) = 0
          · have h := h.1 c13
            refine ab_callV (me2 := mt_State_fitsNoted) (b := kx_now) (as := [.int r10]) (st := []) (rv := (some (.int 1))) (M2 := (I, L, ab_RR, n, nc, ns)) d_K_look_29 ce_State_fitsNoted v_1324 v_1325 v_1326 (by decide) rfl (Nat.le_of_ble_eq_true rfl) (cx_State_fitsNoted_2 r10 hT c12 c13) (Nat.le_refl _) (Nat.le_refl _) hc hs (fun j h9 => by cases h9) (fun _ _ => rfl) ?_
            show ab_E w (d + 1) mt_K_look 32 [.ref kx, .int v1, .int r3, .null, .null] [.int 1] (I, L, ab_RR, n, nc, ns) res
            refine ab_if_eq (tgt := 39) d_K_look_32 (by decide) (fun c9 => absurd c9 (show ¬ (1 : Int32) = 0 from by decide)) (fun _ => ?_)
            refine ab_iconst (v := 1) d_K_look_35 rfl ?_
            refine ab_goto (tgt := 40) d_K_look_36 (by decide) ?_
            refine ab_istore_n (i := 3) d_K_look_40 rfl (by decide) (Or.inr rfl) ?_
            refine ab_iload_n (i := 2) d_K_look_41 rfl rfl ?_
            refine ab_sipush (v := 999) d_K_look_42 rfl ?_
            refine ab_icmp_ge (tgt := 67) d_K_look_45 (by decide) (fun c14 => ?_) (fun c14 => ?_)
            · have h := h.1 c14
              refine ab_iconst (v := 0) d_K_look_67 rfl ?_
              refine ab_istore (i := 4) d_K_look_68 (by decide) (Or.inr rfl) ?_
              refine ab_iload_n (i := 3) d_K_look_70 rfl rfl ?_
              refine ab_if_eq (tgt := 87) d_K_look_71 (by decide) (fun c9 => absurd c9 (show ¬ (1 : Int32) = 0 from by decide)) (fun _ => ?_)
              refine ab_iload (i := 4) d_K_look_74 rfl ?_
              refine ab_if_eq (tgt := 87) d_K_look_76 (by decide) (fun _ => ?_) (fun c9 => absurd (show (0 : Int32) = 0 from by decide) c9)
              refine ab_iconst (v := (-1)) d_K_look_87 rfl ?_
              exact ab_iret (ty := .int) d_K_look_88 rfl rfl h
            · have h := h.2 c14
              refine ab_aload_n (i := 0) d_K_look_48 rfl rfl ?_
              refine ab_getR (ci := 10) (k := 3) (j := kx_now) d_K_look_49 v_475 rfl (by decide) (by decide) rfl r_kx_3 ?_
              refine ab_aload_n (i := 0) d_K_look_52 rfl rfl ?_
              refine ab_iload_n (i := 1) d_K_look_53 rfl rfl ?_
              obtain ⟨r15, hC, h⟩ := h
              refine ab_callV (me2 := mt_K_netWithout) (b := kx) (as := [.int v1]) (st := [.ref kx_now]) (rv := (some (.int r15))) (M2 := (I, L, ab_RR, n, nc, ns)) d_K_look_54 ce_K_netWithout v_1328 v_1330 v_64 (by decide) rfl (Nat.le_of_ble_eq_true rfl) hC (Nat.le_refl _) (Nat.le_refl _) hc hs (fun j h9 => by cases h9) (fun _ _ => rfl) ?_
              show ab_E w (d + 1) mt_K_look 57 [.ref kx, .int v1, .int r3, .int 1, .null] [.int r15, .ref kx_now] (I, L, ab_RR, n, nc, ns) res
              by_cases c17 : (r15 &&& (I kx_now 4)) = (I kx_now 4)
              · have h := h.1 c17
                by_cases c18 : (r15 &&& (I kx_now 5)) = 0
                · have h := h.1 c18
                  refine ab_callV (me2 := mt_State_fitsNoted) (b := kx_now) (as := [.int r15]) (st := []) (rv := (some (.int 1))) (M2 := (I, L, ab_RR, n, nc, ns)) d_K_look_57 ce_State_fitsNoted v_1324 v_1325 v_1326 (by decide) rfl (Nat.le_of_ble_eq_true rfl) (cx_State_fitsNoted_2 r15 hT c17 c18) (Nat.le_refl _) (Nat.le_refl _) hc hs (fun j h9 => by cases h9) (fun _ _ => rfl) ?_
                  show ab_E w (d + 1) mt_K_look 60 [.ref kx, .int v1, .int r3, .int 1, .null] [.int 1] (I, L, ab_RR, n, nc, ns) res
                  refine ab_if_eq (tgt := 67) d_K_look_60 (by decide) (fun c9 => absurd c9 (show ¬ (1 : Int32) = 0 from by decide)) (fun _ => ?_)
                  refine ab_iconst (v := 1) d_K_look_63 rfl ?_
                  refine ab_goto (tgt := 68) d_K_look_64 (by decide) ?_
                  refine ab_istore (i := 4) d_K_look_68 (by decide) (Or.inr rfl) ?_
                  refine ab_iload_n (i := 3) d_K_look_70 rfl rfl ?_
                  refine ab_if_eq (tgt := 87) d_K_look_71 (by decide) (fun c9 => absurd c9 (show ¬ (1 : Int32) = 0 from by decide)) (fun _ => ?_)
                  refine ab_iload (i := 4) d_K_look_74 rfl ?_
                  refine ab_if_eq (tgt := 87) d_K_look_76 (by decide) (fun c9 => absurd c9 (show ¬ (1 : Int32) = 0 from by decide)) (fun _ => ?_)
                  refine ab_aload_n (i := 0) d_K_look_79 rfl rfl ?_
                  refine ab_iload_n (i := 1) d_K_look_80 rfl rfl ?_
                  obtain ⟨r19, hC, h⟩ := h
                  refine ab_callV (me2 := mt_K_partnerOf) (b := kx) (as := [.int v1]) (st := []) (rv := (some (.int r19))) (M2 := (I, L, ab_RR, n, nc, ns)) d_K_look_81 ce_K_partnerOf v_1091 v_1093 v_47 (by decide) rfl (Nat.le_of_ble_eq_true rfl) hC (Nat.le_refl _) (Nat.le_refl _) hc hs (fun j h9 => by cases h9) (fun _ _ => rfl) ?_
                  show ab_E w (d + 1) mt_K_look 84 [.ref kx, .int v1, .int r3, .int 1, .int 1] [.int r19] (I, L, ab_RR, n, nc, ns) res
                  refine ab_goto (tgt := 88) d_K_look_84 (by decide) ?_
                  exact ab_iret (ty := .int) d_K_look_88 rfl rfl h
                · have h := h.2 c18
                  refine ab_callV (me2 := mt_State_fitsNoted) (b := kx_now) (as := [.int r15]) (st := []) (rv := (some (.int 0))) (M2 := (I, L, ab_RR, n, nc, ns)) d_K_look_57 ce_State_fitsNoted v_1324 v_1325 v_1326 (by decide) rfl (Nat.le_of_ble_eq_true rfl) (cx_State_fitsNoted_1 r15 hT c17 c18) (Nat.le_refl _) (Nat.le_refl _) hc hs (fun j h9 => by cases h9) (fun _ _ => rfl) ?_
                  show ab_E w (d + 1) mt_K_look 60 [.ref kx, .int v1, .int r3, .int 1, .null] [.int 0] (I, L, ab_RR, n, nc, ns) res
                  refine ab_if_eq (tgt := 67) d_K_look_60 (by decide) (fun _ => ?_) (fun c9 => absurd (show (0 : Int32) = 0 from by decide) c9)
                  refine ab_iconst (v := 0) d_K_look_67 rfl ?_
                  refine ab_istore (i := 4) d_K_look_68 (by decide) (Or.inr rfl) ?_
                  refine ab_iload_n (i := 3) d_K_look_70 rfl rfl ?_
                  refine ab_if_eq (tgt := 87) d_K_look_71 (by decide) (fun c9 => absurd c9 (show ¬ (1 : Int32) = 0 from by decide)) (fun _ => ?_)
                  refine ab_iload (i := 4) d_K_look_74 rfl ?_
                  refine ab_if_eq (tgt := 87) d_K_look_76 (by decide) (fun _ => ?_) (fun c9 => absurd (show (0 : Int32) = 0 from by decide) c9)
                  refine ab_iconst (v := (-1)) d_K_look_87 rfl ?_
                  exact ab_iret (ty := .int) d_K_look_88 rfl rfl h
              · have h := h.2 c17
                refine ab_callV (me2 := mt_State_fitsNoted) (b := kx_now) (as := [.int r15]) (st := []) (rv := (some (.int 0))) (M2 := (I, L, ab_RR, n, nc, ns)) d_K_look_57 ce_State_fitsNoted v_1324 v_1325 v_1326 (by decide) rfl (Nat.le_of_ble_eq_true rfl) (cx_State_fitsNoted_0 r15 hT c17) (Nat.le_refl _) (Nat.le_refl _) hc hs (fun j h9 => by cases h9) (fun _ _ => rfl) ?_
                show ab_E w (d + 1) mt_K_look 60 [.ref kx, .int v1, .int r3, .int 1, .null] [.int 0] (I, L, ab_RR, n, nc, ns) res
                refine ab_if_eq (tgt := 67) d_K_look_60 (by decide) (fun _ => ?_) (fun c9 => absurd (show (0 : Int32) = 0 from by decide) c9)
                refine ab_iconst (v := 0) d_K_look_67 rfl ?_
                refine ab_istore (i := 4) d_K_look_68 (by decide) (Or.inr rfl) ?_
                refine ab_iload_n (i := 3) d_K_look_70 rfl rfl ?_
                refine ab_if_eq (tgt := 87) d_K_look_71 (by decide) (fun c9 => absurd c9 (show ¬ (1 : Int32) = 0 from by decide)) (fun _ => ?_)
                refine ab_iload (i := 4) d_K_look_74 rfl ?_
                refine ab_if_eq (tgt := 87) d_K_look_76 (by decide) (fun _ => ?_) (fun c9 => absurd (show (0 : Int32) = 0 from by decide) c9)
                refine ab_iconst (v := (-1)) d_K_look_87 rfl ?_
                exact ab_iret (ty := .int) d_K_look_88 rfl rfl h
          · have h := h.2 c13
            refine ab_callV (me2 := mt_State_fitsNoted) (b := kx_now) (as := [.int r10]) (st := []) (rv := (some (.int 0))) (M2 := (I, L, ab_RR, n, nc, ns)) d_K_look_29 ce_State_fitsNoted v_1324 v_1325 v_1326 (by decide) rfl (Nat.le_of_ble_eq_true rfl) (cx_State_fitsNoted_1 r10 hT c12 c13) (Nat.le_refl _) (Nat.le_refl _) hc hs (fun j h9 => by cases h9) (fun _ _ => rfl) ?_
            show ab_E w (d + 1) mt_K_look 32 [.ref kx, .int v1, .int r3, .null, .null] [.int 0] (I, L, ab_RR, n, nc, ns) res
            refine ab_if_eq (tgt := 39) d_K_look_32 (by decide) (fun _ => ?_) (fun c9 => absurd (show (0 : Int32) = 0 from by decide) c9)
            refine ab_iconst (v := 0) d_K_look_39 rfl ?_
            refine ab_istore_n (i := 3) d_K_look_40 rfl (by decide) (Or.inr rfl) ?_
            refine ab_iload_n (i := 2) d_K_look_41 rfl rfl ?_
            refine ab_sipush (v := 999) d_K_look_42 rfl ?_
            refine ab_icmp_ge (tgt := 67) d_K_look_45 (by decide) (fun c20 => ?_) (fun c20 => ?_)
            · have h := h.1 c20
              refine ab_iconst (v := 0) d_K_look_67 rfl ?_
              refine ab_istore (i := 4) d_K_look_68 (by decide) (Or.inr rfl) ?_
              refine ab_iload_n (i := 3) d_K_look_70 rfl rfl ?_
              refine ab_if_eq (tgt := 87) d_K_look_71 (by decide) (fun _ => ?_) (fun c9 => absurd (show (0 : Int32) = 0 from by decide) c9)
              refine ab_iconst (v := (-1)) d_K_look_87 rfl ?_
              exact ab_iret (ty := .int) d_K_look_88 rfl rfl h
            · have h := h.2 c20
              refine ab_aload_n (i := 0) d_K_look_48 rfl rfl ?_
              refine ab_getR (ci := 10) (k := 3) (j := kx_now) d_K_look_49 v_475 rfl (by decide) (by decide) rfl r_kx_3 ?_
              refine ab_aload_n (i := 0) d_K_look_52 rfl rfl ?_
              refine ab_iload_n (i := 1) d_K_look_53 rfl rfl ?_
              obtain ⟨r21, hC, h⟩ := h
              refine ab_callV (me2 := mt_K_netWithout) (b := kx) (as := [.int v1]) (st := [.ref kx_now]) (rv := (some (.int r21))) (M2 := (I, L, ab_RR, n, nc, ns)) d_K_look_54 ce_K_netWithout v_1328 v_1330 v_64 (by decide) rfl (Nat.le_of_ble_eq_true rfl) hC (Nat.le_refl _) (Nat.le_refl _) hc hs (fun j h9 => by cases h9) (fun _ _ => rfl) ?_
              show ab_E w (d + 1) mt_K_look 57 [.ref kx, .int v1, .int r3, .int 0, .null] [.int r21, .ref kx_now] (I, L, ab_RR, n, nc, ns) res
              by_cases c23 : (r21 &&& (I kx_now 4)) = (I kx_now 4)
              · have h := h.1 c23
                by_cases c24 : (r21 &&& (I kx_now 5)) = 0
                · have h := h.1 c24
                  refine ab_callV (me2 := mt_State_fitsNoted) (b := kx_now) (as := [.int r21]) (st := []) (rv := (some (.int 1))) (M2 := (I, L, ab_RR, n, nc, ns)) d_K_look_57 ce_State_fitsNoted v_1324 v_1325 v_1326 (by decide) rfl (Nat.le_of_ble_eq_true rfl) (cx_State_fitsNoted_2 r21 hT c23 c24) (Nat.le_refl _) (Nat.le_refl _) hc hs (fun j h9 => by cases h9) (fun _ _ => rfl) ?_
                  show ab_E w (d + 1) mt_K_look 60 [.ref kx, .int v1, .int r3, .int 0, .null] [.int 1] (I, L, ab_RR, n, nc, ns) res
                  refine ab_if_eq (tgt := 67) d_K_look_60 (by decide) (fun c9 => absurd c9 (show ¬ (1 : Int32) = 0 from by decide)) (fun _ => ?_)
                  refine ab_iconst (v := 1) d_K_look_63 rfl ?_
                  refine ab_goto (tgt := 68) d_K_look_64 (by decide) ?_
                  refine ab_istore (i := 4) d_K_look_68 (by decide) (Or.inr rfl) ?_
                  refine ab_iload_n (i := 3) d_K_look_70 rfl rfl ?_
                  refine ab_if_eq (tgt := 87) d_K_look_71 (by decide) (fun _ => ?_) (fun c9 => absurd (show (0 : Int32) = 0 from by decide) c9)
                  refine ab_iconst (v := (-1)) d_K_look_87 rfl ?_
                  exact ab_iret (ty := .int) d_K_look_88 rfl rfl h
                · have h := h.2 c24
                  refine ab_callV (me2 := mt_State_fitsNoted) (b := kx_now) (as := [.int r21]) (st := []) (rv := (some (.int 0))) (M2 := (I, L, ab_RR, n, nc, ns)) d_K_look_57 ce_State_fitsNoted v_1324 v_1325 v_1326 (by decide) rfl (Nat.le_of_ble_eq_true rfl) (cx_State_fitsNoted_1 r21 hT c23 c24) (Nat.le_refl _) (Nat.le_refl _) hc hs (fun j h9 => by cases h9) (fun _ _ => rfl) ?_
                  show ab_E w (d + 1) mt_K_look 60 [.ref kx, .int v1, .int r3, .int 0, .null] [.int 0] (I, L, ab_RR, n, nc, ns) res
                  refine ab_if_eq (tgt := 67) d_K_look_60 (by decide) (fun _ => ?_) (fun c9 => absurd (show (0 : Int32) = 0 from by decide) c9)
                  refine ab_iconst (v := 0) d_K_look_67 rfl ?_
                  refine ab_istore (i := 4) d_K_look_68 (by decide) (Or.inr rfl) ?_
                  refine ab_iload_n (i := 3) d_K_look_70 rfl rfl ?_
                  refine ab_if_eq (tgt := 87) d_K_look_71 (by decide) (fun _ => ?_) (fun c9 => absurd (show (0 : Int32) = 0 from by decide) c9)
                  refine ab_iconst (v := (-1)) d_K_look_87 rfl ?_
                  exact ab_iret (ty := .int) d_K_look_88 rfl rfl h
              · have h := h.2 c23
                refine ab_callV (me2 := mt_State_fitsNoted) (b := kx_now) (as := [.int r21]) (st := []) (rv := (some (.int 0))) (M2 := (I, L, ab_RR, n, nc, ns)) d_K_look_57 ce_State_fitsNoted v_1324 v_1325 v_1326 (by decide) rfl (Nat.le_of_ble_eq_true rfl) (cx_State_fitsNoted_0 r21 hT c23) (Nat.le_refl _) (Nat.le_refl _) hc hs (fun j h9 => by cases h9) (fun _ _ => rfl) ?_
                show ab_E w (d + 1) mt_K_look 60 [.ref kx, .int v1, .int r3, .int 0, .null] [.int 0] (I, L, ab_RR, n, nc, ns) res
                refine ab_if_eq (tgt := 67) d_K_look_60 (by decide) (fun _ => ?_) (fun c9 => absurd (show (0 : Int32) = 0 from by decide) c9)
                refine ab_iconst (v := 0) d_K_look_67 rfl ?_
                refine ab_istore (i := 4) d_K_look_68 (by decide) (Or.inr rfl) ?_
                refine ab_iload_n (i := 3) d_K_look_70 rfl rfl ?_
                refine ab_if_eq (tgt := 87) d_K_look_71 (by decide) (fun _ => ?_) (fun c9 => absurd (show (0 : Int32) = 0 from by decide) c9)
                refine ab_iconst (v := (-1)) d_K_look_87 rfl ?_
                exact ab_iret (ty := .int) d_K_look_88 rfl rfl h
        · have h := h.2 c12
          refine ab_callV (me2 := mt_State_fitsNoted) (b := kx_now) (as := [.int r10]) (st := []) (rv := (some (.int 0))) (M2 := (I, L, ab_RR, n, nc, ns)) d_K_look_29 ce_State_fitsNoted v_1324 v_1325 v_1326 (by decide) rfl (Nat.le_of_ble_eq_true rfl) (cx_State_fitsNoted_0 r10 hT c12) (Nat.le_refl _) (Nat.le_refl _) hc hs (fun j h9 => by cases h9) (fun _ _ => rfl) ?_
          show ab_E w (d + 1) mt_K_look 32 [.ref kx, .int v1, .int r3, .null, .null] [.int 0] (I, L, ab_RR, n, nc, ns) res
          refine ab_if_eq (tgt := 39) d_K_look_32 (by decide) (fun _ => ?_) (fun c9 => absurd (show (0 : Int32) = 0 from by decide) c9)
          refine ab_iconst (v := 0) d_K_look_39 rfl ?_
          refine ab_istore_n (i := 3) d_K_look_40 rfl (by decide) (Or.inr rfl) ?_
          refine ab_iload_n (i := 2) d_K_look_41 rfl rfl ?_
          refine ab_sipush (v := 999) d_K_look_42 rfl ?_
          refine ab_icmp_ge (tgt := 67) d_K_look_45 (by decide) (fun c25 => ?_) (fun c25 => ?_)
          · have h := h.1 c25
            refine ab_iconst (v := 0) d_K_look_67 rfl ?_
            refine ab_istore (i := 4) d_K_look_68 (by decide) (Or.inr rfl) ?_
            refine ab_iload_n (i := 3) d_K_look_70 rfl rfl ?_
            refine ab_if_eq (tgt := 87) d_K_look_71 (by decide) (fun _ => ?_) (fun c9 => absurd (show (0 : Int32) = 0 from by decide) c9)
            refine ab_iconst (v := (-1)) d_K_look_87 rfl ?_
            exact ab_iret (ty := .int) d_K_look_88 rfl rfl h
          · have h := h.2 c25
            refine ab_aload_n (i := 0) d_K_look_48 rfl rfl ?_
            refine ab_getR (ci := 10) (k := 3) (j := kx_now) d_K_look_49 v_475 rfl (by decide) (by decide) rfl r_kx_3 ?_
            refine ab_aload_n (i := 0) d_K_look_52 rfl rfl ?_
            refine ab_iload_n (i := 1) d_K_look_53 rfl rfl ?_
            obtain ⟨r26, hC, h⟩ := h
            refine ab_callV (me2 := mt_K_netWithout) (b := kx) (as := [.int v1]) (st := [.ref kx_now]) (rv := (some (.int r26))) (M2 := (I, L, ab_RR, n, nc, ns)) d_K_look_54 ce_K_netWithout v_1328 v_1330 v_64 (by decide) rfl (Nat.le_of_ble_eq_true rfl) hC (Nat.le_refl _) (Nat.le_refl _) hc hs (fun j h9 => by cases h9) (fun _ _ => rfl) ?_
            show ab_E w (d + 1) mt_K_look 57 [.ref kx, .int v1, .int r3, .int 0, .null] [.int r26, .ref kx_now] (I, L, ab_RR, n, nc, ns) res
            by_cases c28 : (r26 &&& (I kx_now 4)) = (I kx_now 4)
            · have h := h.1 c28
              by_cases c29 : (r26 &&& (I kx_now 5)) = 0
              · have h := h.1 c29
                refine ab_callV (me2 := mt_State_fitsNoted) (b := kx_now) (as := [.int r26]) (st := []) (rv := (some (.int 1))) (M2 := (I, L, ab_RR, n, nc, ns)) d_K_look_57 ce_State_fitsNoted v_1324 v_1325 v_1326 (by decide) rfl (Nat.le_of_ble_eq_true rfl) (cx_State_fitsNoted_2 r26 hT c28 c29) (Nat.le_refl _) (Nat.le_refl _) hc hs (fun j h9 => by cases h9) (fun _ _ => rfl) ?_
                show ab_E w (d + 1) mt_K_look 60 [.ref kx, .int v1, .int r3, .int 0, .null] [.int 1] (I, L, ab_RR, n, nc, ns) res
                refine ab_if_eq (tgt := 67) d_K_look_60 (by decide) (fun c9 => absurd c9 (show ¬ (1 : Int32) = 0 from by decide)) (fun _ => ?_)
                refine ab_iconst (v := 1) d_K_look_63 rfl ?_
                refine ab_goto (tgt := 68) d_K_look_64 (by decide) ?_
                refine ab_istore (i := 4) d_K_look_68 (by decide) (Or.inr rfl) ?_
                refine ab_iload_n (i := 3) d_K_look_70 rfl rfl ?_
                refine ab_if_eq (tgt := 87) d_K_look_71 (by decide) (fun _ => ?_) (fun c9 => absurd (show (0 : Int32) = 0 from by decide) c9)
                refine ab_iconst (v := (-1)) d_K_look_87 rfl ?_
                exact ab_iret (ty := .int) d_K_look_88 rfl rfl h
              · have h := h.2 c29
                refine ab_callV (me2 := mt_State_fitsNoted) (b := kx_now) (as := [.int r26]) (st := []) (rv := (some (.int 0))) (M2 := (I, L, ab_RR, n, nc, ns)) d_K_look_57 ce_State_fitsNoted v_1324 v_1325 v_1326 (by decide) rfl (Nat.le_of_ble_eq_true rfl) (cx_State_fitsNoted_1 r26 hT c28 c29) (Nat.le_refl _) (Nat.le_refl _) hc hs (fun j h9 => by cases h9) (fun _ _ => rfl) ?_
                show ab_E w (d + 1) mt_K_look 60 [.ref kx, .int v1, .int r3, .int 0, .null] [.int 0] (I, L, ab_RR, n, nc, ns) res
                refine ab_if_eq (tgt := 67) d_K_look_60 (by decide) (fun _ => ?_) (fun c9 => absurd (show (0 : Int32) = 0 from by decide) c9)
                refine ab_iconst (v := 0) d_K_look_67 rfl ?_
                refine ab_istore (i := 4) d_K_look_68 (by decide) (Or.inr rfl) ?_
                refine ab_iload_n (i := 3) d_K_look_70 rfl rfl ?_
                refine ab_if_eq (tgt := 87) d_K_look_71 (by decide) (fun _ => ?_) (fun c9 => absurd (show (0 : Int32) = 0 from by decide) c9)
                refine ab_iconst (v := (-1)) d_K_look_87 rfl ?_
                exact ab_iret (ty := .int) d_K_look_88 rfl rfl h
            · have h := h.2 c28
              refine ab_callV (me2 := mt_State_fitsNoted) (b := kx_now) (as := [.int r26]) (st := []) (rv := (some (.int 0))) (M2 := (I, L, ab_RR, n, nc, ns)) d_K_look_57 ce_State_fitsNoted v_1324 v_1325 v_1326 (by decide) rfl (Nat.le_of_ble_eq_true rfl) (cx_State_fitsNoted_0 r26 hT c28) (Nat.le_refl _) (Nat.le_refl _) hc hs (fun j h9 => by cases h9) (fun _ _ => rfl) ?_
              show ab_E w (d + 1) mt_K_look 60 [.ref kx, .int v1, .int r3, .int 0, .null] [.int 0] (I, L, ab_RR, n, nc, ns) res
              refine ab_if_eq (tgt := 67) d_K_look_60 (by decide) (fun _ => ?_) (fun c9 => absurd (show (0 : Int32) = 0 from by decide) c9)
              refine ab_iconst (v := 0) d_K_look_67 rfl ?_
              refine ab_istore (i := 4) d_K_look_68 (by decide) (Or.inr rfl) ?_
              refine ab_iload_n (i := 3) d_K_look_70 rfl rfl ?_
              refine ab_if_eq (tgt := 87) d_K_look_71 (by decide) (fun _ => ?_) (fun c9 => absurd (show (0 : Int32) = 0 from by decide) c9)
              refine ab_iconst (v := (-1)) d_K_look_87 rfl ?_
              exact ab_iret (ty := .int) d_K_look_88 rfl rfl h
    · exact ab_callVX (me2 := mt_K_needSound) (b := kx) (as := [.int v1]) (st := []) (M2 := (I, L, ab_RR, n, nc + 1, ns + 6)) rfl d_K_look_7 ce_K_needSound v_1297 v_1299 v_61 (by decide) rfl (Nat.le_of_ble_eq_true rfl) hC (Nat.le_succ _) (Nat.le_add_right _ _) (fun _ _ => rfl) h
  · exact ab_callVX (me2 := mt_K_needCable) (b := kx) (as := [.int v1]) (st := []) (M2 := (I, L, ab_RR, n, nc + 1, ns + 6)) rfl d_K_look_2 ce_K_needCable v_1071 v_1073 v_43 (by decide) rfl (Nat.le_of_ble_eq_true rfl) hC (Nat.le_succ _) (Nat.le_add_right _ _) (fun _ _ => rfl) h
theorem cx_State_forgetNoted_0 {w : ab_Wd} {d n nc ns : Nat} {I : Nat → Nat → Int32} {L : Nat → Nat → Int64}  (hT : w.1.stackTraces = false)  : ab_C w d mt_State_forgetNoted [.ref kx_now] (I, L, ab_RR, n, nc, ns) (.inl none, ((ab_up (ab_up (ab_up I kx_now 3 0) kx_now 4 0) kx_now 5 0), L, ab_RR, n, nc, ns)) := by
  refine ab_C_of (by decide) rfl (Nat.le_of_ble_eq_true rfl) hT ?_
  have hc := Nat.le_refl nc
  have hs := Nat.le_refl ns
  refine ab_aload_n (i := 0) d_State_forgetNoted_0 rfl rfl ?_
  refine ab_iconst (v := 0) d_State_forgetNoted_1 rfl ?_
  refine ab_putI (ci := 6) (k := 3) d_State_forgetNoted_2 v_299 rfl (by decide) (by decide) rfl (Or.inl rfl) rfl rfl ?_
  refine ab_aload_n (i := 0) d_State_forgetNoted_5 rfl rfl ?_
  refine ab_iconst (v := 0) d_State_forgetNoted_6 rfl ?_
  refine ab_putI (ci := 6) (k := 4) d_State_forgetNoted_7 v_301 rfl (by decide) (by decide) rfl (Or.inl rfl) rfl rfl ?_
  refine ab_aload_n (i := 0) d_State_forgetNoted_10 rfl rfl ?_
  refine ab_iconst (v := 0) d_State_forgetNoted_11 rfl ?_
  refine ab_putI (ci := 6) (k := 5) d_State_forgetNoted_12 v_303 rfl (by decide) (by decide) rfl (Or.inl rfl) rfl rfl ?_
  exact ab_vret d_State_forgetNoted_15 rfl rfl
theorem cx_K_forget_0 {w : ab_Wd} {d n nc ns : Nat} {I : Nat → Nat → Int32} {L : Nat → Nat → Int64}  (hT : w.1.stackTraces = false)  : ab_C w (d + 1) mt_K_forget [.ref kx] (I, L, ab_RR, n, nc, ns) (.inl none, ((ab_up (ab_up (ab_up I kx_now 3 0) kx_now 4 0) kx_now 5 0), L, ab_RR, n, nc, ns)) := by
  refine ab_C_of (by decide) rfl (Nat.le_of_ble_eq_true rfl) hT ?_
  have hc := Nat.le_refl nc
  have hs := Nat.le_refl ns
  refine ab_aload_n (i := 0) d_K_forget_0 rfl rfl ?_
  refine ab_getR (ci := 10) (k := 3) (j := kx_now) d_K_forget_1 v_475 rfl (by decide) (by decide) rfl r_kx_3 ?_
  refine ab_callV (me2 := mt_State_forgetNoted) (b := kx_now) (as := []) (st := []) (rv := none) (M2 := ((ab_up (ab_up (ab_up I kx_now 3 0) kx_now 4 0) kx_now 5 0), L, ab_RR, n, nc, ns)) d_K_forget_4 ce_State_forgetNoted v_659 v_660 v_661 (by decide) rfl (Nat.le_of_ble_eq_true rfl) (cx_State_forgetNoted_0  hT) (Nat.le_refl _) (Nat.le_refl _) hc hs (fun j h9 => by cases h9) (fun _ _ => rfl) ?_
  show ab_E w (d + 1) mt_K_forget 7 [.ref kx] [] ((ab_up (ab_up (ab_up I kx_now 3 0) kx_now 4 0) kx_now 5 0), L, ab_RR, n, nc, ns) _
  exact ab_vret d_K_forget_7 rfl rfl
theorem r_K_years_0 {w : ab_Wd} {d n nc ns : Nat} {I : Nat → Nat → Int32} {L : Nat → Nat → Int64} {res : ab_Re} (hT : w.1.stackTraces = false) (v1 : Int32) (v2 : Int32) (v3 : Int32) (h8 : 8 ≤ (d + 1)) (hc : nc ≤ res.2.2.2.2.2.1) (hs : ns ≤ res.2.2.2.2.2.2)
    (h : ((v3 < 0 → (res = (.inr "java/util/NoSuchElementException", (I, L, ab_RR, n, nc + 1, ns + 6)))) ∧ (¬ v3 < 0 → ((v3 ≤ 2 → ((v2 < 0 → (res = (.inr "java/lang/IllegalArgumentException", (I, L, ab_RR, n, nc + 1, ns + 6)))) ∧ (¬ v2 < 0 → ((v2 ≤ 60 → (∃ (I6 : Nat → Nat → Int32), ab_C w d mt_Cables_copy [.ref kx_trial, .ref kx_now_cables] (I, L, ab_RR, n, nc, ns) (.inl none, (I6, L, ab_RR, n, nc, ns)) ∧ ∃ (I8 : Nat → Nat → Int32), ab_C w d mt_Forest_grow [.ref kx_trialNet, .ref kx_trial, .int (I6 kx_trial 2)] (I6, L, ab_RR, n, nc, ns) (.inl none, (I8, L, ab_RR, n, nc, ns)) ∧ ab_E w (d + 1) mt_K_years 76 [.ref kx, .int v1, .int v2, .int v3, .int 0, .int v1, .int 0, .null] [] (I8, L, ab_RR, n, nc, ns) res)) ∧ (¬ v2 ≤ 60 → (res = (.inr "java/lang/IllegalArgumentException", (I, L, ab_RR, n, nc + 1, ns + 6)))))))) ∧ (¬ v3 ≤ 2 → (res = (.inr "java/util/NoSuchElementException", (I, L, ab_RR, n, nc + 1, ns + 6)))))))) : ab_E w (d + 1) mt_K_years 0 [.ref kx, .int v1, .int v2, .int v3, .null, .null, .null, .null] [] (I, L, ab_RR, n, nc, ns) res := by
  refine ab_iload_n (i := 3) d_K_years_0 rfl rfl ?_
  refine ab_if_lt (tgt := 9) d_K_years_1 (by decide) (fun c1 => ?_) (fun c1 => ?_)
  · have h := h.1 c1
    exact ab_throw (E := "java/util/NoSuchElementException") d_K_years_9 d_K_years_12 d_K_years_13 d_K_years_16 (by decide +kernel) rfl v_1049 v_163 x3_K_185 x4_K_185 h8 (Nat.le_of_ble_eq_true rfl) h
  · have h := h.2 c1
    refine ab_iload_n (i := 3) d_K_years_4 rfl rfl ?_
    refine ab_iconst (v := 2) d_K_years_5 rfl ?_
    refine ab_icmp_le (tgt := 17) d_K_years_6 (by decide) (fun c2 => ?_) (fun c2 => ?_)
    · have h := h.1 c2
      refine ab_iload_n (i := 2) d_K_years_17 rfl rfl ?_
      refine ab_if_lt (tgt := 27) d_K_years_18 (by decide) (fun c3 => ?_) (fun c3 => ?_)
      · have h := h.1 c3
        exact ab_throw (E := "java/lang/IllegalArgumentException") d_K_years_27 d_K_years_30 d_K_years_31 d_K_years_34 (by decide +kernel) rfl v_698 v_155 x3_K_92 x4_K_92 h8 (Nat.le_of_ble_eq_true rfl) h
      · have h := h.2 c3
        refine ab_iload_n (i := 2) d_K_years_21 rfl rfl ?_
        refine ab_bipush (v := 60) d_K_years_22 rfl ?_
        refine ab_icmp_le (tgt := 35) d_K_years_24 (by decide) (fun c4 => ?_) (fun c4 => ?_)
        · have h := h.1 c4
          refine ab_aload_n (i := 0) d_K_years_35 rfl rfl ?_
          refine ab_getR (ci := 10) (k := 8) (j := kx_trial) d_K_years_36 v_480 rfl (by decide) (by decide) rfl r_kx_8 ?_
          refine ab_aload_n (i := 0) d_K_years_39 rfl rfl ?_
          refine ab_getR (ci := 10) (k := 3) (j := kx_now) d_K_years_40 v_475 rfl (by decide) (by decide) rfl r_kx_3 ?_
          refine ab_getR (ci := 6) (k := 0) (j := kx_now_cables) d_K_years_43 v_294 rfl (by decide) (by decide) rfl r_kx_now_0 ?_
          obtain ⟨I6, hC, h⟩ := h
          refine ab_callV (me2 := mt_Cables_copy) (b := kx_trial) (as := [.ref kx_now_cables]) (st := []) (rv := none) (M2 := (I6, L, ab_RR, n, nc, ns)) d_K_years_46 ce_Cables_copy v_983 v_672 v_673 (by decide) rfl (Nat.le_of_ble_eq_true rfl) hC (Nat.le_refl _) (Nat.le_refl _) hc hs (fun j h9 => by cases h9) (fun _ _ => rfl) ?_
          show ab_E w (d + 1) mt_K_years 49 [.ref kx, .int v1, .int v2, .int v3, .null, .null, .null, .null] [] (I6, L, ab_RR, n, nc, ns) res
          refine ab_aload_n (i := 0) d_K_years_49 rfl rfl ?_
          refine ab_getR (ci := 10) (k := 9) (j := kx_trialNet) d_K_years_50 v_481 rfl (by decide) (by decide) rfl r_kx_9 ?_
          refine ab_aload_n (i := 0) d_K_years_53 rfl rfl ?_
          refine ab_getR (ci := 10) (k := 8) (j := kx_trial) d_K_years_54 v_480 rfl (by decide) (by decide) rfl r_kx_8 ?_
          refine ab_aload_n (i := 0) d_K_years_57 rfl rfl ?_
          refine ab_getR (ci := 10) (k := 8) (j := kx_trial) d_K_years_58 v_480 rfl (by decide) (by decide) rfl r_kx_8 ?_
          refine ab_getI (ci := 1) (k := 2) d_K_years_61 v_202 rfl (by decide) (by decide) rfl ?_
          obtain ⟨I8, hC, h⟩ := h
          refine ab_callV (me2 := mt_Forest_grow) (b := kx_trialNet) (as := [.ref kx_trial, .int (I6 kx_trial 2)]) (st := []) (rv := none) (M2 := (I8, L, ab_RR, n, nc, ns)) d_K_years_64 ce_Forest_grow v_440 v_441 v_442 (by decide) rfl (Nat.le_of_ble_eq_true rfl) hC (Nat.le_refl _) (Nat.le_refl _) hc hs (fun j h9 => by cases h9) (fun _ _ => rfl) ?_
          show ab_E w (d + 1) mt_K_years 67 [.ref kx, .int v1, .int v2, .int v3, .null, .null, .null, .null] [] (I8, L, ab_RR, n, nc, ns) res
          refine ab_iconst (v := 0) d_K_years_67 rfl ?_
          refine ab_istore (i := 4) d_K_years_68 (by decide) (Or.inr rfl) ?_
          refine ab_iload_n (i := 1) d_K_years_70 rfl rfl ?_
          refine ab_istore (i := 5) d_K_years_71 (by decide) (Or.inr rfl) ?_
          refine ab_iconst (v := 0) d_K_years_73 rfl ?_
          refine ab_istore (i := 6) d_K_years_74 (by decide) (Or.inr rfl) ?_
          exact h
        · have h := h.2 c4
          exact ab_throw (E := "java/lang/IllegalArgumentException") d_K_years_27 d_K_years_30 d_K_years_31 d_K_years_34 (by decide +kernel) rfl v_698 v_155 x3_K_92 x4_K_92 h8 (Nat.le_of_ble_eq_true rfl) h
    · have h := h.2 c2
      exact ab_throw (E := "java/util/NoSuchElementException") d_K_years_9 d_K_years_12 d_K_years_13 d_K_years_16 (by decide +kernel) rfl v_1049 v_163 x3_K_185 x4_K_185 h8 (Nat.le_of_ble_eq_true rfl) h
theorem r_K_years_76 {w : ab_Wd} {d n nc ns : Nat} {I : Nat → Nat → Int32} {L : Nat → Nat → Int64} {res : ab_Re} (hT : w.1.stackTraces = false) (v1 : Int32) (v2 : Int32) (v3 : Int32) (v4 : Int32) (v5 : Int32) (v6 : Int32) (h8 : 8 ≤ (d + 1)) (hc : nc ≤ res.2.2.2.2.2.1) (hs : ns ≤ res.2.2.2.2.2.2)
    (h : ((v2 ≤ v6 → ((¬ v3 = 0 → ((¬ v3 = 1 → (res = (.inl (some (.int (I kx_trialNet 4))), (I, L, ab_RR, n, nc, ns)))) ∧ (v3 = 1 → (res = (.inl (some (.int v4)), (I, L, ab_RR, n, nc, ns)))))) ∧ (v3 = 0 → (res = (.inl (some (.int (I kx_trialNet 3))), (I, L, ab_RR, n, nc, ns)))))) ∧ (¬ v2 ≤ v6 → (∃ (r4 : Int32) (I5 : Nat → Nat → Int32), ab_C w d mt_K_passYear [.ref kx, .int v5] (I, L, ab_RR, n, nc, ns) (.inl (some (.int r4)), (I5, L, ab_RR, n, nc, ns)) ∧ (((I5 kx_trialNet 2) = (I kx_trialNet 2) → (ab_E w (d + 1) mt_K_years 76 [.ref kx, .int v1, .int v2, .int v3, .int v4, .int r4, .int (v6 + 1), .null] [] (I5, L, ab_RR, n, nc, ns) res)) ∧ (¬ (I5 kx_trialNet 2) = (I kx_trialNet 2) → (ab_E w (d + 1) mt_K_years 76 [.ref kx, .int v1, .int v2, .int v3, .int (v4 + 1), .int r4, .int (v6 + 1), .null] [] (I5, L, ab_RR, n, nc, ns) res))))))) : ab_E w (d + 1) mt_K_years 76 [.ref kx, .int v1, .int v2, .int v3, .int v4, .int v5, .int v6, .null] [] (I, L, ab_RR, n, nc, ns) res := by
  refine ab_iload (i := 6) d_K_years_76 rfl ?_
  refine ab_iload_n (i := 2) d_K_years_78 rfl rfl ?_
  refine ab_icmp_ge (tgt := 120) d_K_years_79 (by decide) (fun c1 => ?_) (fun c1 => ?_)
  · have h := h.1 c1
    refine ab_iload_n (i := 3) d_K_years_120 rfl rfl ?_
    refine ab_if_ne (tgt := 132) d_K_years_121 (by decide) (fun c2 => ?_) (fun c2 => ?_)
    · have h := h.1 c2
      refine ab_iload_n (i := 3) d_K_years_132 rfl rfl ?_
      refine ab_iconst (v := 1) d_K_years_133 rfl ?_
      refine ab_icmp_ne (tgt := 142) d_K_years_134 (by decide) (fun c3 => ?_) (fun c3 => ?_)
      · have h := h.1 c3
        refine ab_aload_n (i := 0) d_K_years_142 rfl rfl ?_
        refine ab_getR (ci := 10) (k := 9) (j := kx_trialNet) d_K_years_143 v_481 rfl (by decide) (by decide) rfl r_kx_9 ?_
        refine ab_getI (ci := 2) (k := 4) d_K_years_146 v_339 rfl (by decide) (by decide) rfl ?_
        exact ab_iret (ty := .int) d_K_years_149 rfl rfl h
      · have h := h.2 c3
        refine ab_iload (i := 4) d_K_years_137 rfl ?_
        refine ab_goto (tgt := 149) d_K_years_139 (by decide) ?_
        exact ab_iret (ty := .int) d_K_years_149 rfl rfl h
    · have h := h.2 c2
      refine ab_aload_n (i := 0) d_K_years_124 rfl rfl ?_
      refine ab_getR (ci := 10) (k := 9) (j := kx_trialNet) d_K_years_125 v_481 rfl (by decide) (by decide) rfl r_kx_9 ?_
      refine ab_getI (ci := 2) (k := 3) d_K_years_128 v_337 rfl (by decide) (by decide) rfl ?_
      exact ab_iret (ty := .int) d_K_years_131 rfl rfl h
  · have h := h.2 c1
    refine ab_aload_n (i := 0) d_K_years_82 rfl rfl ?_
    refine ab_getR (ci := 10) (k := 9) (j := kx_trialNet) d_K_years_83 v_481 rfl (by decide) (by decide) rfl r_kx_9 ?_
    refine ab_getI (ci := 2) (k := 2) d_K_years_86 v_335 rfl (by decide) (by decide) rfl ?_
    refine ab_istore (i := 7) d_K_years_89 (by decide) (Or.inr rfl) ?_
    refine ab_aload_n (i := 0) d_K_years_91 rfl rfl ?_
    refine ab_iload (i := 5) d_K_years_92 rfl ?_
    obtain ⟨r4, I5, hC, h⟩ := h
    refine ab_callV (me2 := mt_K_passYear) (b := kx) (as := [.int v5]) (st := []) (rv := (some (.int r4))) (M2 := (I5, L, ab_RR, n, nc, ns)) d_K_years_94 ce_K_passYear v_1346 v_1348 v_65 (by decide) rfl (Nat.le_of_ble_eq_true rfl) hC (Nat.le_refl _) (Nat.le_refl _) hc hs (fun j h9 => by cases h9) (fun _ _ => rfl) ?_
    show ab_E w (d + 1) mt_K_years 97 [.ref kx, .int v1, .int v2, .int v3, .int v4, .int v5, .int v6, .int (I kx_trialNet 2)] [.int r4] (I5, L, ab_RR, n, nc, ns) res
    refine ab_istore (i := 5) d_K_years_97 (by decide) (Or.inr rfl) ?_
    refine ab_aload_n (i := 0) d_K_years_99 rfl rfl ?_
    refine ab_getR (ci := 10) (k := 9) (j := kx_trialNet) d_K_years_100 v_481 rfl (by decide) (by decide) rfl r_kx_9 ?_
    refine ab_getI (ci := 2) (k := 2) d_K_years_103 v_335 rfl (by decide) (by decide) rfl ?_
    refine ab_iload (i := 7) d_K_years_106 rfl ?_
    refine ab_icmp_eq (tgt := 114) d_K_years_108 (by decide) (fun c6 => ?_) (fun c6 => ?_)
    · have h := h.1 c6
      refine ab_iinc (i := 6) (v := (v6 + 1)) d_K_years_114 rfl rfl (by decide) (Or.inr rfl) ?_
      refine ab_goto (tgt := 76) d_K_years_117 (by decide) ?_
      refine ab_drop 7 ?_
      exact h
    · have h := h.2 c6
      refine ab_iinc (i := 4) (v := (v4 + 1)) d_K_years_111 rfl rfl (by decide) (Or.inr rfl) ?_
      refine ab_iinc (i := 6) (v := (v6 + 1)) d_K_years_114 rfl rfl (by decide) (Or.inr rfl) ?_
      refine ab_goto (tgt := 76) d_K_years_117 (by decide) ?_
      refine ab_drop 7 ?_
      exact h
theorem r_K_image_0 {w : ab_Wd} {d n nc ns : Nat} {I : Nat → Nat → Int32} {L : Nat → Nat → Int64} {res : ab_Re} (hT : w.1.stackTraces = false)  (hc : nc ≤ res.2.2.2.2.2.1) (hs : ns ≤ res.2.2.2.2.2.2)
    (h : ∃ (I2 : Nat → Nat → Int32), ab_C w d mt_State_copy [.ref kx_kept, .ref kx_now] (I, L, ab_RR, n, nc, ns) (.inl none, (I2, L, ab_RR, n, nc, ns)) ∧ res = (.inl none, ((ab_up I2 kx 5 1), L, ab_RR, n, nc, ns))) : ab_E w (d + 1) mt_K_image 0 [.ref kx] [] (I, L, ab_RR, n, nc, ns) res := by
  refine ab_aload_n (i := 0) d_K_image_0 rfl rfl ?_
  refine ab_getR (ci := 10) (k := 4) (j := kx_kept) d_K_image_1 v_476 rfl (by decide) (by decide) rfl r_kx_4 ?_
  refine ab_aload_n (i := 0) d_K_image_4 rfl rfl ?_
  refine ab_getR (ci := 10) (k := 3) (j := kx_now) d_K_image_5 v_475 rfl (by decide) (by decide) rfl r_kx_3 ?_
  obtain ⟨I2, hC, h⟩ := h
  refine ab_callV (me2 := mt_State_copy) (b := kx_kept) (as := [.ref kx_now]) (st := []) (rv := none) (M2 := (I2, L, ab_RR, n, nc, ns)) d_K_image_8 ce_State_copy v_667 v_668 v_669 (by decide) rfl (Nat.le_of_ble_eq_true rfl) hC (Nat.le_refl _) (Nat.le_refl _) hc hs (fun j h9 => by cases h9) (fun _ _ => rfl) ?_
  show ab_E w (d + 1) mt_K_image 11 [.ref kx] [] (I2, L, ab_RR, n, nc, ns) res
  refine ab_aload_n (i := 0) d_K_image_11 rfl rfl ?_
  refine ab_iconst (v := 1) d_K_image_12 rfl ?_
  refine ab_putI (ci := 10) (k := 5) d_K_image_13 v_477 rfl (by decide) (by decide) rfl (Or.inl rfl) rfl rfl ?_
  exact ab_vret d_K_image_16 rfl h
theorem r_K_restore_0 {w : ab_Wd} {d n nc ns : Nat} {I : Nat → Nat → Int32} {L : Nat → Nat → Int64} {res : ab_Re} (hT : w.1.stackTraces = false)  (hc : nc ≤ res.2.2.2.2.2.1) (hs : ns ≤ res.2.2.2.2.2.2)
    (h : ((¬ (I kx 5) = 0 → (∃ (I3 : Nat → Nat → Int32), ab_C w d mt_State_copy [.ref kx_now, .ref kx_kept] (I, L, ab_RR, n, nc, ns) (.inl none, (I3, L, ab_RR, n, nc, ns)) ∧ ∃ (I5 : Nat → Nat → Int32), ab_C w d mt_K_settle [.ref kx] (I3, L, ab_RR, n, nc, ns) (.inl none, (I5, L, ab_RR, n, nc, ns)) ∧ res = (.inl (some (.int 1)), (I5, L, ab_RR, n, nc, ns)))) ∧ ((I kx 5) = 0 → (res = (.inl (some (.int 0)), (I, L, ab_RR, n, nc, ns)))))) : ab_E w (d + 1) mt_K_restore 0 [.ref kx] [] (I, L, ab_RR, n, nc, ns) res := by
  refine ab_aload_n (i := 0) d_K_restore_0 rfl rfl ?_
  refine ab_getI (ci := 10) (k := 5) d_K_restore_1 v_477 rfl (by decide) (by decide) rfl ?_
  refine ab_if_ne (tgt := 9) d_K_restore_4 (by decide) (fun c1 => ?_) (fun c1 => ?_)
  · have h := h.1 c1
    refine ab_aload_n (i := 0) d_K_restore_9 rfl rfl ?_
    refine ab_getR (ci := 10) (k := 3) (j := kx_now) d_K_restore_10 v_475 rfl (by decide) (by decide) rfl r_kx_3 ?_
    refine ab_aload_n (i := 0) d_K_restore_13 rfl rfl ?_
    refine ab_getR (ci := 10) (k := 4) (j := kx_kept) d_K_restore_14 v_476 rfl (by decide) (by decide) rfl r_kx_4 ?_
    obtain ⟨I3, hC, h⟩ := h
    refine ab_callV (me2 := mt_State_copy) (b := kx_now) (as := [.ref kx_kept]) (st := []) (rv := none) (M2 := (I3, L, ab_RR, n, nc, ns)) d_K_restore_17 ce_State_copy v_667 v_668 v_669 (by decide) rfl (Nat.le_of_ble_eq_true rfl) hC (Nat.le_refl _) (Nat.le_refl _) hc hs (fun j h9 => by cases h9) (fun _ _ => rfl) ?_
    show ab_E w (d + 1) mt_K_restore 20 [.ref kx] [] (I3, L, ab_RR, n, nc, ns) res
    refine ab_aload_n (i := 0) d_K_restore_20 rfl rfl ?_
    obtain ⟨I5, hC, h⟩ := h
    refine ab_callV (me2 := mt_K_settle) (b := kx) (as := []) (st := []) (rv := none) (M2 := (I5, L, ab_RR, n, nc, ns)) d_K_restore_21 ce_K_settle v_436 v_438 v_0 (by decide) rfl (Nat.le_of_ble_eq_true rfl) hC (Nat.le_refl _) (Nat.le_refl _) hc hs (fun j h9 => by cases h9) (fun _ _ => rfl) ?_
    show ab_E w (d + 1) mt_K_restore 24 [.ref kx] [] (I5, L, ab_RR, n, nc, ns) res
    refine ab_iconst (v := 1) d_K_restore_24 rfl ?_
    exact ab_iret (ty := .boolean) d_K_restore_25 rfl rfl h
  · have h := h.2 c1
    refine ab_iconst (v := 0) d_K_restore_7 rfl ?_
    exact ab_iret (ty := .boolean) d_K_restore_8 rfl rfl h
theorem r_K_needCable_0 {w : ab_Wd} {d n nc ns : Nat} {I : Nat → Nat → Int32} {L : Nat → Nat → Int64} {res : ab_Re} (hT : w.1.stackTraces = false) (v1 : Int32) (h8 : 8 ≤ (d + 1)) (hc : nc ≤ res.2.2.2.2.2.1) (hs : ns ≤ res.2.2.2.2.2.2)
    (h : ((v1 < 0 → (res = (.inr "java/util/NoSuchElementException", (I, L, ab_RR, n, nc + 1, ns + 6)))) ∧ (¬ v1 < 0 → (((I kx_now_cables 1) ≤ v1 → (res = (.inr "java/util/NoSuchElementException", (I, L, ab_RR, n, nc + 1, ns + 6)))) ∧ (¬ (I kx_now_cables 1) ≤ v1 → (res = (.inl none, (I, L, ab_RR, n, nc, ns)))))))) : ab_E w (d + 1) mt_K_needCable 0 [.ref kx, .int v1] [] (I, L, ab_RR, n, nc, ns) res := by
  refine ab_aload_n (i := 0) d_K_needCable_0 rfl rfl ?_
  refine ab_getR (ci := 10) (k := 3) (j := kx_now) d_K_needCable_1 v_475 rfl (by decide) (by decide) rfl r_kx_3 ?_
  refine ab_getR (ci := 6) (k := 0) (j := kx_now_cables) d_K_needCable_4 v_294 rfl (by decide) (by decide) rfl r_kx_now_0 ?_
  refine ab_iload_n (i := 1) d_K_needCable_7 rfl rfl ?_
  by_cases c2 : v1 < 0
  · have h := h.1 c2
    refine ab_callV (me2 := mt_Cables_has) (b := kx_now_cables) (as := [.int v1]) (st := []) (rv := (some (.int 0))) (M2 := (I, L, ab_RR, n, nc, ns)) d_K_needCable_8 ce_Cables_has v_567 v_568 v_569 (by decide) rfl (Nat.le_of_ble_eq_true rfl) (cx_Cables_has_0 v1 hT c2) (Nat.le_refl _) (Nat.le_refl _) hc hs (fun j h9 => by cases h9) (fun _ _ => rfl) ?_
    show ab_E w (d + 1) mt_K_needCable 11 [.ref kx, .int v1] [.int 0] (I, L, ab_RR, n, nc, ns) res
    refine ab_if_ne (tgt := 22) d_K_needCable_11 (by decide) (fun c9 => absurd (show (0 : Int32) = 0 from by decide) c9) (fun _ => ?_)
    exact ab_throw (E := "java/util/NoSuchElementException") d_K_needCable_14 d_K_needCable_17 d_K_needCable_18 d_K_needCable_21 (by decide +kernel) rfl v_1049 v_163 x3_K_185 x4_K_185 h8 (Nat.le_of_ble_eq_true rfl) h
  · have h := h.2 c2
    by_cases c3 : (I kx_now_cables 1) ≤ v1
    · have h := h.1 c3
      refine ab_callV (me2 := mt_Cables_has) (b := kx_now_cables) (as := [.int v1]) (st := []) (rv := (some (.int 0))) (M2 := (I, L, ab_RR, n, nc, ns)) d_K_needCable_8 ce_Cables_has v_567 v_568 v_569 (by decide) rfl (Nat.le_of_ble_eq_true rfl) (cx_Cables_has_1 v1 hT c2 c3) (Nat.le_refl _) (Nat.le_refl _) hc hs (fun j h9 => by cases h9) (fun _ _ => rfl) ?_
      show ab_E w (d + 1) mt_K_needCable 11 [.ref kx, .int v1] [.int 0] (I, L, ab_RR, n, nc, ns) res
      refine ab_if_ne (tgt := 22) d_K_needCable_11 (by decide) (fun c9 => absurd (show (0 : Int32) = 0 from by decide) c9) (fun _ => ?_)
      exact ab_throw (E := "java/util/NoSuchElementException") d_K_needCable_14 d_K_needCable_17 d_K_needCable_18 d_K_needCable_21 (by decide +kernel) rfl v_1049 v_163 x3_K_185 x4_K_185 h8 (Nat.le_of_ble_eq_true rfl) h
    · have h := h.2 c3
      refine ab_callV (me2 := mt_Cables_has) (b := kx_now_cables) (as := [.int v1]) (st := []) (rv := (some (.int 1))) (M2 := (I, L, ab_RR, n, nc, ns)) d_K_needCable_8 ce_Cables_has v_567 v_568 v_569 (by decide) rfl (Nat.le_of_ble_eq_true rfl) (cx_Cables_has_2 v1 hT c2 c3) (Nat.le_refl _) (Nat.le_refl _) hc hs (fun j h9 => by cases h9) (fun _ _ => rfl) ?_
      show ab_E w (d + 1) mt_K_needCable 11 [.ref kx, .int v1] [.int 1] (I, L, ab_RR, n, nc, ns) res
      refine ab_if_ne (tgt := 22) d_K_needCable_11 (by decide) (fun _ => ?_) (fun c9 => absurd c9 (show ¬ (1 : Int32) = 0 from by decide))
      exact ab_vret d_K_needCable_22 rfl h
theorem r_K_needSite_0 {w : ab_Wd} {d n nc ns : Nat} {I : Nat → Nat → Int32} {L : Nat → Nat → Int64} {res : ab_Re} (hT : w.1.stackTraces = false) (v1 : Int32) (h8 : 8 ≤ (d + 1)) (hc : nc ≤ res.2.2.2.2.2.1) (hs : ns ≤ res.2.2.2.2.2.2)
    (h : ((v1 < 0 → (res = (.inr "java/util/NoSuchElementException", (I, L, ab_RR, n, nc + 1, ns + 6)))) ∧ (¬ v1 < 0 → (((I kx_now_cables 0) ≤ v1 → (res = (.inr "java/util/NoSuchElementException", (I, L, ab_RR, n, nc + 1, ns + 6)))) ∧ (¬ (I kx_now_cables 0) ≤ v1 → (res = (.inl none, (I, L, ab_RR, n, nc, ns)))))))) : ab_E w (d + 1) mt_K_needSite 0 [.ref kx, .int v1] [] (I, L, ab_RR, n, nc, ns) res := by
  refine ab_aload_n (i := 0) d_K_needSite_0 rfl rfl ?_
  refine ab_getR (ci := 10) (k := 3) (j := kx_now) d_K_needSite_1 v_475 rfl (by decide) (by decide) rfl r_kx_3 ?_
  refine ab_getR (ci := 6) (k := 0) (j := kx_now_cables) d_K_needSite_4 v_294 rfl (by decide) (by decide) rfl r_kx_now_0 ?_
  refine ab_iload_n (i := 1) d_K_needSite_7 rfl rfl ?_
  by_cases c2 : v1 < 0
  · have h := h.1 c2
    refine ab_callV (me2 := mt_Cables_hasSite) (b := kx_now_cables) (as := [.int v1]) (st := []) (rv := (some (.int 0))) (M2 := (I, L, ab_RR, n, nc, ns)) d_K_needSite_8 ce_Cables_hasSite v_633 v_634 v_635 (by decide) rfl (Nat.le_of_ble_eq_true rfl) (cx_Cables_hasSite_0 v1 hT c2) (Nat.le_refl _) (Nat.le_refl _) hc hs (fun j h9 => by cases h9) (fun _ _ => rfl) ?_
    show ab_E w (d + 1) mt_K_needSite 11 [.ref kx, .int v1] [.int 0] (I, L, ab_RR, n, nc, ns) res
    refine ab_if_ne (tgt := 22) d_K_needSite_11 (by decide) (fun c9 => absurd (show (0 : Int32) = 0 from by decide) c9) (fun _ => ?_)
    exact ab_throw (E := "java/util/NoSuchElementException") d_K_needSite_14 d_K_needSite_17 d_K_needSite_18 d_K_needSite_21 (by decide +kernel) rfl v_1049 v_163 x3_K_185 x4_K_185 h8 (Nat.le_of_ble_eq_true rfl) h
  · have h := h.2 c2
    by_cases c3 : (I kx_now_cables 0) ≤ v1
    · have h := h.1 c3
      refine ab_callV (me2 := mt_Cables_hasSite) (b := kx_now_cables) (as := [.int v1]) (st := []) (rv := (some (.int 0))) (M2 := (I, L, ab_RR, n, nc, ns)) d_K_needSite_8 ce_Cables_hasSite v_633 v_634 v_635 (by decide) rfl (Nat.le_of_ble_eq_true rfl) (cx_Cables_hasSite_1 v1 hT c2 c3) (Nat.le_refl _) (Nat.le_refl _) hc hs (fun j h9 => by cases h9) (fun _ _ => rfl) ?_
      show ab_E w (d + 1) mt_K_needSite 11 [.ref kx, .int v1] [.int 0] (I, L, ab_RR, n, nc, ns) res
      refine ab_if_ne (tgt := 22) d_K_needSite_11 (by decide) (fun c9 => absurd (show (0 : Int32) = 0 from by decide) c9) (fun _ => ?_)
      exact ab_throw (E := "java/util/NoSuchElementException") d_K_needSite_14 d_K_needSite_17 d_K_needSite_18 d_K_needSite_21 (by decide +kernel) rfl v_1049 v_163 x3_K_185 x4_K_185 h8 (Nat.le_of_ble_eq_true rfl) h
    · have h := h.2 c3
      refine ab_callV (me2 := mt_Cables_hasSite) (b := kx_now_cables) (as := [.int v1]) (st := []) (rv := (some (.int 1))) (M2 := (I, L, ab_RR, n, nc, ns)) d_K_needSite_8 ce_Cables_hasSite v_633 v_634 v_635 (by decide) rfl (Nat.le_of_ble_eq_true rfl) (cx_Cables_hasSite_2 v1 hT c2 c3) (Nat.le_refl _) (Nat.le_refl _) hc hs (fun j h9 => by cases h9) (fun _ _ => rfl) ?_
      show ab_E w (d + 1) mt_K_needSite 11 [.ref kx, .int v1] [.int 1] (I, L, ab_RR, n, nc, ns) res
      refine ab_if_ne (tgt := 22) d_K_needSite_11 (by decide) (fun _ => ?_) (fun c9 => absurd c9 (show ¬ (1 : Int32) = 0 from by decide))
      exact ab_vret d_K_needSite_22 rfl h
theorem r_K_needSound_0 {w : ab_Wd} {d n nc ns : Nat} {I : Nat → Nat → Int32} {L : Nat → Nat → Int64} {res : ab_Re} (hT : w.1.stackTraces = false) (v1 : Int32) (h8 : 8 ≤ (d + 1)) (hc : nc ≤ res.2.2.2.2.2.1) (hs : ns ≤ res.2.2.2.2.2.2)
    (h : (((((I kx_now_cables 2) >>> (v1 &&& 31)) &&& 1) = 1 → (res = (.inl none, (I, L, ab_RR, n, nc, ns)))) ∧ (¬ (((I kx_now_cables 2) >>> (v1 &&& 31)) &&& 1) = 1 → (res = (.inr "java/lang/IllegalStateException", (I, L, ab_RR, n, nc + 1, ns + 6)))))) : ab_E w (d + 1) mt_K_needSound 0 [.ref kx, .int v1] [] (I, L, ab_RR, n, nc, ns) res := by
  refine ab_aload_n (i := 0) d_K_needSound_0 rfl rfl ?_
  refine ab_getR (ci := 10) (k := 3) (j := kx_now) d_K_needSound_1 v_475 rfl (by decide) (by decide) rfl r_kx_3 ?_
  refine ab_getR (ci := 6) (k := 0) (j := kx_now_cables) d_K_needSound_4 v_294 rfl (by decide) (by decide) rfl r_kx_now_0 ?_
  refine ab_iload_n (i := 1) d_K_needSound_7 rfl rfl ?_
  by_cases c2 : (((I kx_now_cables 2) >>> (v1 &&& 31)) &&& 1) = 1
  · have h := h.1 c2
    refine ab_callV (me2 := mt_Cables_isSound) (b := kx_now_cables) (as := [.int v1]) (st := []) (rv := (some (.int 1))) (M2 := (I, L, ab_RR, n, nc, ns)) d_K_needSound_8 ce_Cables_isSound v_624 v_540 v_541 (by decide) rfl (Nat.le_of_ble_eq_true rfl) (cx_Cables_isSound_0_1 v1 hT c2) (Nat.le_refl _) (Nat.le_refl _) hc hs (fun j h9 => by cases h9) (fun _ _ => rfl) ?_
    show ab_E w (d + 1) mt_K_needSound 11 [.ref kx, .int v1] [.int 1] (I, L, ab_RR, n, nc, ns) res
    refine ab_if_ne (tgt := 22) d_K_needSound_11 (by decide) (fun _ => ?_) (fun c9 => absurd c9 (show ¬ (1 : Int32) = 0 from by decide))
    exact ab_vret d_K_needSound_22 rfl h
  · have h := h.2 c2
    refine ab_callV (me2 := mt_Cables_isSound) (b := kx_now_cables) (as := [.int v1]) (st := []) (rv := (some (.int 0))) (M2 := (I, L, ab_RR, n, nc, ns)) d_K_needSound_8 ce_Cables_isSound v_624 v_540 v_541 (by decide) rfl (Nat.le_of_ble_eq_true rfl) (cx_Cables_isSound_0_0 v1 hT c2) (Nat.le_refl _) (Nat.le_refl _) hc hs (fun j h9 => by cases h9) (fun _ _ => rfl) ?_
    show ab_E w (d + 1) mt_K_needSound 11 [.ref kx, .int v1] [.int 0] (I, L, ab_RR, n, nc, ns) res
    refine ab_if_ne (tgt := 22) d_K_needSound_11 (by decide) (fun c9 => absurd (show (0 : Int32) = 0 from by decide) c9) (fun _ => ?_)
    exact ab_throw (E := "java/lang/IllegalStateException") d_K_needSound_14 d_K_needSound_17 d_K_needSound_18 d_K_needSound_21 (by decide +kernel) rfl v_1301 v_164 x3_K_407 x4_K_407 h8 (Nat.le_of_ble_eq_true rfl) h
theorem r_K_settle_0 {w : ab_Wd} {d n nc ns : Nat} {I : Nat → Nat → Int32} {L : Nat → Nat → Int64} {res : ab_Re} (hT : w.1.stackTraces = false)  (hc : nc ≤ res.2.2.2.2.2.1) (hs : ns ≤ res.2.2.2.2.2.2)
    (h : ∃ (I2 : Nat → Nat → Int32), ab_C w d mt_Forest_grow [.ref kx_forest, .ref kx_now_cables, .int (I kx_now_cables 2)] (I, L, ab_RR, n, nc, ns) (.inl none, (I2, L, ab_RR, n, nc, ns)) ∧ ∃ (I4 : Nat → Nat → Int32), ab_C w d mt_Ways_trace [.ref kx_ways, .ref kx_now_cables, .ref kx_forest] (I2, L, ab_RR, n, nc, ns) (.inl none, (I4, L, ab_RR, n, nc, ns)) ∧ res = (.inl none, (I4, L, ab_RR, n, nc, ns))) : ab_E w (d + 1) mt_K_settle 0 [.ref kx] [] (I, L, ab_RR, n, nc, ns) res := by
  refine ab_aload_n (i := 0) d_K_settle_0 rfl rfl ?_
  refine ab_getR (ci := 10) (k := 6) (j := kx_forest) d_K_settle_1 v_478 rfl (by decide) (by decide) rfl r_kx_6 ?_
  refine ab_aload_n (i := 0) d_K_settle_4 rfl rfl ?_
  refine ab_getR (ci := 10) (k := 3) (j := kx_now) d_K_settle_5 v_475 rfl (by decide) (by decide) rfl r_kx_3 ?_
  refine ab_getR (ci := 6) (k := 0) (j := kx_now_cables) d_K_settle_8 v_294 rfl (by decide) (by decide) rfl r_kx_now_0 ?_
  refine ab_aload_n (i := 0) d_K_settle_11 rfl rfl ?_
  refine ab_getR (ci := 10) (k := 3) (j := kx_now) d_K_settle_12 v_475 rfl (by decide) (by decide) rfl r_kx_3 ?_
  refine ab_getR (ci := 6) (k := 0) (j := kx_now_cables) d_K_settle_15 v_294 rfl (by decide) (by decide) rfl r_kx_now_0 ?_
  refine ab_getI (ci := 1) (k := 2) d_K_settle_18 v_202 rfl (by decide) (by decide) rfl ?_
  obtain ⟨I2, hC, h⟩ := h
  refine ab_callV (me2 := mt_Forest_grow) (b := kx_forest) (as := [.ref kx_now_cables, .int (I kx_now_cables 2)]) (st := []) (rv := none) (M2 := (I2, L, ab_RR, n, nc, ns)) d_K_settle_21 ce_Forest_grow v_440 v_441 v_442 (by decide) rfl (Nat.le_of_ble_eq_true rfl) hC (Nat.le_refl _) (Nat.le_refl _) hc hs (fun j h9 => by cases h9) (fun _ _ => rfl) ?_
  show ab_E w (d + 1) mt_K_settle 24 [.ref kx] [] (I2, L, ab_RR, n, nc, ns) res
  refine ab_aload_n (i := 0) d_K_settle_24 rfl rfl ?_
  refine ab_getR (ci := 10) (k := 7) (j := kx_ways) d_K_settle_25 v_479 rfl (by decide) (by decide) rfl r_kx_7 ?_
  refine ab_aload_n (i := 0) d_K_settle_28 rfl rfl ?_
  refine ab_getR (ci := 10) (k := 3) (j := kx_now) d_K_settle_29 v_475 rfl (by decide) (by decide) rfl r_kx_3 ?_
  refine ab_getR (ci := 6) (k := 0) (j := kx_now_cables) d_K_settle_32 v_294 rfl (by decide) (by decide) rfl r_kx_now_0 ?_
  refine ab_aload_n (i := 0) d_K_settle_35 rfl rfl ?_
  refine ab_getR (ci := 10) (k := 6) (j := kx_forest) d_K_settle_36 v_478 rfl (by decide) (by decide) rfl r_kx_6 ?_
  obtain ⟨I4, hC, h⟩ := h
  refine ab_callV (me2 := mt_Ways_trace) (b := kx_ways) (as := [.ref kx_now_cables, .ref kx_forest]) (st := []) (rv := none) (M2 := (I4, L, ab_RR, n, nc, ns)) d_K_settle_39 ce_Ways_trace v_453 v_454 v_455 (by decide) rfl (Nat.le_of_ble_eq_true rfl) hC (Nat.le_refl _) (Nat.le_refl _) hc hs (fun j h9 => by cases h9) (fun _ _ => rfl) ?_
  show ab_E w (d + 1) mt_K_settle 42 [.ref kx] [] (I4, L, ab_RR, n, nc, ns) res
  exact ab_vret d_K_settle_42 rfl h
