theorem r_K_feed_0 {w : ab_Wd} {d n nc ns : Nat} {I : Nat → Nat → Int32} {L : Nat → Nat → Int64} {res : ab_Re} (hT : w.1.stackTraces = false) (v1 : Int32) (v2 : Int32) (v3 : Int32) (v4 : Int32) (v5 : Int32) (hc : nc ≤ res.2.2.2.2.2.1) (hs : ns ≤ res.2.2.2.2.2.2)
    (h : ((((I kx 1) + 20) ≤ 700 → (∃ (I3 : Nat → Nat → Int32), ab_C w d mt_K_putOnTape [.ref kx, .int v1] (I, L, ab_RR, n, nc, ns) (.inl none, (I3, L, ab_RR, n, nc, ns)) ∧ ∃ (I5 : Nat → Nat → Int32), ab_C w d mt_K_putOnTape [.ref kx, .int v2] (I3, L, ab_RR, n, nc, ns) (.inl none, (I5, L, ab_RR, n, nc, ns)) ∧ ∃ (I7 : Nat → Nat → Int32), ab_C w d mt_K_putOnTape [.ref kx, .int v3] (I5, L, ab_RR, n, nc, ns) (.inl none, (I7, L, ab_RR, n, nc, ns)) ∧ ∃ (I9 : Nat → Nat → Int32), ab_C w d mt_K_putOnTape [.ref kx, .int v4] (I7, L, ab_RR, n, nc, ns) (.inl none, (I9, L, ab_RR, n, nc, ns)) ∧ ∃ (I11 : Nat → Nat → Int32), ab_C w d mt_K_putOnTape [.ref kx, .int v5] (I9, L, ab_RR, n, nc, ns) (.inl none, (I11, L, ab_RR, n, nc, ns)) ∧ res = (.inl (some (.int (I11 kx 1))), (I11, L, ab_RR, n, nc, ns)))) ∧ (¬ ((I kx 1) + 20) ≤ 700 → (res = (.inl (some (.int (-1))), (I, L, ab_RR, n, nc, ns)))))) : ab_E w (d + 1) mt_K_feed 0 [.ref kx, .int v1, .int v2, .int v3, .int v4, .int v5] [] (I, L, ab_RR, n, nc, ns) res := by
  refine ab_aload_n (i := 0) d_K_feed_0 rfl rfl ?_
  refine ab_getI (ci := 10) (k := 1) d_K_feed_1 v_473 rfl (by decide) (by decide) rfl ?_
  refine ab_bipush (v := 20) d_K_feed_4 rfl ?_
  refine ab_iadd d_K_feed_6 ?_
  refine ab_sipush (v := 700) d_K_feed_7 rfl ?_
  refine ab_icmp_le (tgt := 15) d_K_feed_10 (by decide) (fun c1 => ?_) (fun c1 => ?_)
  · have h := h.1 c1
    refine ab_aload_n (i := 0) d_K_feed_15 rfl rfl ?_
    refine ab_iload_n (i := 1) d_K_feed_16 rfl rfl ?_
    obtain ⟨I3, hC, h⟩ := h
    refine ab_callV (me2 := mt_K_putOnTape) (b := kx) (as := [.int v1]) (st := []) (rv := none) (M2 := (I3, L, ab_RR, n, nc, ns)) d_K_feed_17 ce_K_putOnTape v_519 v_521 v_4 (by decide) rfl (Nat.le_of_ble_eq_true rfl) hC (Nat.le_refl _) (Nat.le_refl _) hc hs (fun j h9 => by cases h9) (fun _ _ => rfl) ?_
    show ab_E w (d + 1) mt_K_feed 20 [.ref kx, .int v1, .int v2, .int v3, .int v4, .int v5] [] (I3, L, ab_RR, n, nc, ns) res
    refine ab_aload_n (i := 0) d_K_feed_20 rfl rfl ?_
    refine ab_iload_n (i := 2) d_K_feed_21 rfl rfl ?_
    obtain ⟨I5, hC, h⟩ := h
    refine ab_callV (me2 := mt_K_putOnTape) (b := kx) (as := [.int v2]) (st := []) (rv := none) (M2 := (I5, L, ab_RR, n, nc, ns)) d_K_feed_22 ce_K_putOnTape v_519 v_521 v_4 (by decide) rfl (Nat.le_of_ble_eq_true rfl) hC (Nat.le_refl _) (Nat.le_refl _) hc hs (fun j h9 => by cases h9) (fun _ _ => rfl) ?_
    show ab_E w (d + 1) mt_K_feed 25 [.ref kx, .int v1, .int v2, .int v3, .int v4, .int v5] [] (I5, L, ab_RR, n, nc, ns) res
    refine ab_aload_n (i := 0) d_K_feed_25 rfl rfl ?_
    refine ab_iload_n (i := 3) d_K_feed_26 rfl rfl ?_
    obtain ⟨I7, hC, h⟩ := h
    refine ab_callV (me2 := mt_K_putOnTape) (b := kx) (as := [.int v3]) (st := []) (rv := none) (M2 := (I7, L, ab_RR, n, nc, ns)) d_K_feed_27 ce_K_putOnTape v_519 v_521 v_4 (by decide) rfl (Nat.le_of_ble_eq_true rfl) hC (Nat.le_refl _) (Nat.le_refl _) hc hs (fun j h9 => by cases h9) (fun _ _ => rfl) ?_
    show ab_E w (d + 1) mt_K_feed 30 [.ref kx, .int v1, .int v2, .int v3, .int v4, .int v5] [] (I7, L, ab_RR, n, nc, ns) res
    refine ab_aload_n (i := 0) d_K_feed_30 rfl rfl ?_
    refine ab_iload (i := 4) d_K_feed_31 rfl ?_
    obtain ⟨I9, hC, h⟩ := h
    refine ab_callV (me2 := mt_K_putOnTape) (b := kx) (as := [.int v4]) (st := []) (rv := none) (M2 := (I9, L, ab_RR, n, nc, ns)) d_K_feed_33 ce_K_putOnTape v_519 v_521 v_4 (by decide) rfl (Nat.le_of_ble_eq_true rfl) hC (Nat.le_refl _) (Nat.le_refl _) hc hs (fun j h9 => by cases h9) (fun _ _ => rfl) ?_
    show ab_E w (d + 1) mt_K_feed 36 [.ref kx, .int v1, .int v2, .int v3, .int v4, .int v5] [] (I9, L, ab_RR, n, nc, ns) res
    refine ab_aload_n (i := 0) d_K_feed_36 rfl rfl ?_
    refine ab_iload (i := 5) d_K_feed_37 rfl ?_
    obtain ⟨I11, hC, h⟩ := h
    refine ab_callV (me2 := mt_K_putOnTape) (b := kx) (as := [.int v5]) (st := []) (rv := none) (M2 := (I11, L, ab_RR, n, nc, ns)) d_K_feed_39 ce_K_putOnTape v_519 v_521 v_4 (by decide) rfl (Nat.le_of_ble_eq_true rfl) hC (Nat.le_refl _) (Nat.le_refl _) hc hs (fun j h9 => by cases h9) (fun _ _ => rfl) ?_
    show ab_E w (d + 1) mt_K_feed 42 [.ref kx, .int v1, .int v2, .int v3, .int v4, .int v5] [] (I11, L, ab_RR, n, nc, ns) res
    refine ab_aload_n (i := 0) d_K_feed_42 rfl rfl ?_
    refine ab_getI (ci := 10) (k := 1) d_K_feed_43 v_473 rfl (by decide) (by decide) rfl ?_
    exact ab_iret (ty := .int) d_K_feed_46 rfl rfl h
  · have h := h.2 c1
    refine ab_iconst (v := (-1)) d_K_feed_13 rfl ?_
    exact ab_iret (ty := .int) d_K_feed_14 rfl rfl h
theorem r_K_putOnTape_0 {w : ab_Wd} {d n nc ns : Nat} {I : Nat → Nat → Int32} {L : Nat → Nat → Int64} {res : ab_Re} (hT : w.1.stackTraces = false) (v1 : Int32) (hc : nc ≤ res.2.2.2.2.2.1) (hs : ns ≤ res.2.2.2.2.2.2)
    (h : ab_E w d mt_K_putOnTape 3 [.ref kx, .int v1, .int 24] [] (I, L, ab_RR, n, nc, ns) res) : ab_E w d mt_K_putOnTape 0 [.ref kx, .int v1, .null] [] (I, L, ab_RR, n, nc, ns) res := by
  refine ab_bipush (v := 24) d_K_putOnTape_0 rfl ?_
  refine ab_istore_n (i := 2) d_K_putOnTape_2 rfl (by decide) (Or.inr rfl) ?_
  exact h
theorem r_K_putOnTape_3 {w : ab_Wd} {d n nc ns : Nat} {I : Nat → Nat → Int32} {L : Nat → Nat → Int64} {res : ab_Re} (hT : w.1.stackTraces = false) (v1 : Int32) (v2 : Int32) (hc : nc ≤ res.2.2.2.2.2.1) (hs : ns ≤ res.2.2.2.2.2.2)
    (h : ((v2 < 0 → (res = (.inl none, (I, L, ab_RR, n, nc, ns)))) ∧ (¬ v2 < 0 → ((700 ≤ (I kx 1) → (res = (.inl none, (I, L, ab_RR, n, nc, ns)))) ∧ (¬ 700 ≤ (I kx 1) → ((vp_in (I kx 1) 700) ∧ ab_E w d mt_K_putOnTape 3 [.ref kx, .int v1, .int (v2 + (-8))] [] ((ab_up (ab_up I kx_tape (I kx 1).toNatClampNeg (vp_nar .byte (ab_i2b8 (v1 >>> (v2 &&& 31))))) kx 1 ((I kx 1) + 1)), L, ab_RR, n, nc, ns) res)))))) : ab_E w d mt_K_putOnTape 3 [.ref kx, .int v1, .int v2] [] (I, L, ab_RR, n, nc, ns) res := by
  refine ab_iload_n (i := 2) d_K_putOnTape_3 rfl rfl ?_
  refine ab_if_lt (tgt := 46) d_K_putOnTape_4 (by decide) (fun c1 => ?_) (fun c1 => ?_)
  · have h := h.1 c1
    exact ab_vret d_K_putOnTape_46 rfl h
  · have h := h.2 c1
    refine ab_aload_n (i := 0) d_K_putOnTape_7 rfl rfl ?_
    refine ab_getI (ci := 10) (k := 1) d_K_putOnTape_8 v_473 rfl (by decide) (by decide) rfl ?_
    refine ab_sipush (v := 700) d_K_putOnTape_11 rfl ?_
    refine ab_icmp_ge (tgt := 46) d_K_putOnTape_14 (by decide) (fun c2 => ?_) (fun c2 => ?_)
    · have h := h.1 c2
      exact ab_vret d_K_putOnTape_46 rfl h
    · have h := h.2 c2
      refine ab_aload_n (i := 0) d_K_putOnTape_17 rfl rfl ?_
      refine ab_getR (ci := 10) (k := 0) (j := kx_tape) d_K_putOnTape_18 v_472 rfl (by decide) (by decide) rfl r_kx_0 ?_
      refine ab_aload_n (i := 0) d_K_putOnTape_21 rfl rfl ?_
      refine ab_getI (ci := 10) (k := 1) d_K_putOnTape_22 v_473 rfl (by decide) (by decide) rfl ?_
      refine ab_iload_n (i := 1) d_K_putOnTape_25 rfl rfl ?_
      refine ab_iload_n (i := 2) d_K_putOnTape_26 rfl rfl ?_
      refine ab_ishr d_K_putOnTape_27 ?_
      refine ab_i2b d_K_putOnTape_28 ?_
      have g3 := h.1; have h := h.2
      refine ab_bast d_K_putOnTape_29 rfl rfl g3 ?_
      refine ab_aload_n (i := 0) d_K_putOnTape_30 rfl rfl ?_
      refine ab_dupr d_K_putOnTape_31 ?_
      refine ab_getI (ci := 10) (k := 1) d_K_putOnTape_32 v_473 rfl (by decide) (by decide) rfl ?_
      refine ab_iconst (v := 1) d_K_putOnTape_35 rfl ?_
      refine ab_iadd d_K_putOnTape_36 ?_
      refine ab_putI (ci := 10) (k := 1) d_K_putOnTape_37 v_473 rfl (by decide) (by decide) rfl (Or.inl rfl) rfl rfl ?_
      refine ab_iinc (i := 2) (v := (v2 + (-8))) d_K_putOnTape_40 rfl rfl (by decide) (Or.inr rfl) ?_
      refine ab_goto (tgt := 3) d_K_putOnTape_43 (by decide) ?_
      exact h
theorem r_K_net_0 {w : ab_Wd} {d n nc ns : Nat} {I : Nat → Nat → Int32} {L : Nat → Nat → Int64} {res : ab_Re} (hT : w.1.stackTraces = false) (v1 : Int32) (h8 : 8 ≤ (d + 1)) (hc : nc ≤ res.2.2.2.2.2.1) (hs : ns ≤ res.2.2.2.2.2.2)
    (h : ((v1 < 0 → (res = (.inr "java/lang/IllegalArgumentException", (I, L, ab_RR, 91, nc + 1, ns + 6)))) ∧ (¬ v1 < 0 → ((v1 ≤ (I kx 1) → ((nc + 1 ≤ res.2.2.2.2.2.1 ∧ ns + 9 ≤ res.2.2.2.2.2.2) ∧ ∃ (I3 : Nat → Nat → Int32), ab_C w d mt_Reader_init [.ref kx_reader, .ref kx_tape, .int v1, .ref kx_trial] ((ab_row I kx_reader (fun _ => 0)), (ab_row L kx_reader (fun _ => 0)), (ab_row ab_RR kx_reader (fun _ => .null)), 92, (nc + 1), (ns + 9)) (.inl none, (I3, (ab_row L kx_reader (fun _ => 0)), ab_RR, 92, (nc + 1), (ns + 9))) ∧ ∃ (r4 : Int32) (I5 : Nat → Nat → Int32), ab_C w d mt_Reader_readText [.ref kx_reader] (I3, (ab_row L kx_reader (fun _ => 0)), ab_RR, 92, (nc + 1), (ns + 9)) (.inl (some (.int r4)), (I5, (ab_row L kx_reader (fun _ => 0)), ab_RR, 92, (nc + 1), (ns + 9))) ∧ ((r4 = 0 → (∃ (I8 : Nat → Nat → Int32), ab_C w d mt_State_begin [.ref kx_now, .ref kx_trial] ((ab_up (ab_up I5 kx 1 0) kx 2 (I5 kx_reader 8)), (ab_row L kx_reader (fun _ => 0)), ab_RR, 92, (nc + 1), (ns + 9)) (.inl none, (I8, (ab_row L kx_reader (fun _ => 0)), ab_RR, 92, (nc + 1), (ns + 9))) ∧ ∃ (I10 : Nat → Nat → Int32), ab_C w d mt_K_settle [.ref kx] ((ab_up I8 kx 5 0), (ab_row L kx_reader (fun _ => 0)), ab_RR, 92, (nc + 1), (ns + 9)) (.inl none, (I10, (ab_row L kx_reader (fun _ => 0)), ab_RR, 92, (nc + 1), (ns + 9))) ∧ res = (.inl (some (.int 0)), (I10, (ab_row L kx_reader (fun _ => 0)), ab_RR, 92, (nc + 1), (ns + 9))))) ∧ (¬ r4 = 0 → (res = (.inl (some (.int r4)), ((ab_up (ab_up (ab_up I5 kx 1 0) kx 2 (I5 kx_reader 8)) kx_now_refused 0 ((I5 kx_now_refused 0) + 1)), (ab_row L kx_reader (fun _ => 0)), ab_RR, 92, (nc + 1), (ns + 9)))))))) ∧ (¬ v1 ≤ (I kx 1) → (res = (.inr "java/lang/IllegalArgumentException", (I, L, ab_RR, 91, nc + 1, ns + 6)))))))) : ab_E w (d + 1) mt_K_net 0 [.ref kx, .int v1, .null, .null] [] (I, L, ab_RR, 91, nc, ns) res := by
  refine ab_iload_n (i := 1) d_K_net_0 rfl rfl ?_
  refine ab_if_lt (tgt := 12) d_K_net_1 (by decide) (fun c1 => ?_) (fun c1 => ?_)
  · have h := h.1 c1
    exact ab_throw (E := "java/lang/IllegalArgumentException") d_K_net_12 d_K_net_15 d_K_net_16 d_K_net_19 (by decide +kernel) rfl v_698 v_155 x3_K_92 x4_K_92 h8 (Nat.le_of_ble_eq_true rfl) h
  · have h := h.2 c1
    refine ab_iload_n (i := 1) d_K_net_4 rfl rfl ?_
    refine ab_aload_n (i := 0) d_K_net_5 rfl rfl ?_
    refine ab_getI (ci := 10) (k := 1) d_K_net_6 v_473 rfl (by decide) (by decide) rfl ?_
    refine ab_icmp_le (tgt := 20) d_K_net_9 (by decide) (fun c2 => ?_) (fun c2 => ?_)
    · have h := h.1 c2
      have hc := h.1.1; have hs := h.1.2; have h := h.2
      refine ab_new0 (i := kx_reader) (ci := 4) (show ab_bl kx_reader = 91 + 1 from by decide) (by decide) d_K_net_20 (by decide) v_761 v_762 v_156 hc hs ?_
      show ab_E w (d + 1) mt_K_net 23 [.ref kx, .int v1, .null, .null] [.ref kx_reader] ((ab_row I kx_reader (fun _ => 0)), (ab_row L kx_reader (fun _ => 0)), (ab_row ab_RR kx_reader (fun _ => .null)), 92, (nc + 1), (ns + 9)) res
      refine ab_dupr d_K_net_23 ?_
      refine ab_aload_n (i := 0) d_K_net_24 rfl rfl ?_
      refine ab_getR (ci := 10) (k := 0) (j := kx_tape) d_K_net_25 v_472 rfl (by decide) (by decide) rfl r_kx_0 ?_
      refine ab_iload_n (i := 1) d_K_net_28 rfl rfl ?_
      refine ab_aload_n (i := 0) d_K_net_29 rfl rfl ?_
      refine ab_getR (ci := 10) (k := 8) (j := kx_trial) d_K_net_30 v_480 rfl (by decide) (by decide) rfl r_kx_8 ?_
      obtain ⟨I3, hC, h⟩ := h
      refine ab_callI (me2 := mt_Reader_init) (b := kx_reader) (as := [.ref kx_tape, .int v1, .ref kx_trial]) (st := [.ref kx_reader]) (M2 := (I3, (ab_row L kx_reader (fun _ => 0)), ab_RR, 92, (nc + 1), (ns + 9))) d_K_net_33 ce_Reader_init (Or.inl v_763) v_764 rfl rfl (Nat.le_of_ble_eq_true rfl) hC (Nat.le_refl _) (Nat.le_refl _) hc hs (Nat.le_refl _) ?_
      show ab_E w (d + 1) mt_K_net 36 [.ref kx, .int v1, .null, .null] [.ref kx_reader] (I3, (ab_row L kx_reader (fun _ => 0)), ab_RR, 92, (nc + 1), (ns + 9)) res
      refine ab_astore_n (i := 2) d_K_net_36 rfl (by decide) (Or.inr rfl) ?_
      refine ab_aload_n (i := 2) d_K_net_37 rfl rfl ?_
      obtain ⟨r4, I5, hC, h⟩ := h
      refine ab_callV (me2 := mt_Reader_readText) (b := kx_reader) (as := []) (st := []) (rv := (some (.int r4))) (M2 := (I5, (ab_row L kx_reader (fun _ => 0)), ab_RR, 92, (nc + 1), (ns + 9))) d_K_net_38 ce_Reader_readText v_796 v_797 v_798 (by decide) rfl (Nat.le_of_ble_eq_true rfl) hC (Nat.le_refl _) (Nat.le_refl _) hc hs (fun j h9 => by cases h9) (fun _ _ => rfl) ?_
      show ab_E w (d + 1) mt_K_net 41 [.ref kx, .int v1, .ref kx_reader, .null] [.int r4] (I5, (ab_row L kx_reader (fun _ => 0)), ab_RR, 92, (nc + 1), (ns + 9)) res
      refine ab_istore_n (i := 3) d_K_net_41 rfl (by decide) (Or.inr rfl) ?_
      refine ab_aload_n (i := 0) d_K_net_42 rfl rfl ?_
      refine ab_iconst (v := 0) d_K_net_43 rfl ?_
      refine ab_putI (ci := 10) (k := 1) d_K_net_44 v_473 rfl (by decide) (by decide) rfl (Or.inl rfl) rfl rfl ?_
      refine ab_aload_n (i := 0) d_K_net_47 rfl rfl ?_
      refine ab_aload_n (i := 2) d_K_net_48 rfl rfl ?_
      refine ab_getI (ci := 4) (k := 8) d_K_net_49 v_776 rfl (by decide) (by decide) rfl ?_
      refine ab_putI (ci := 10) (k := 2) d_K_net_52 v_474 rfl (by decide) (by decide) rfl (Or.inl rfl) rfl rfl ?_
      refine ab_iload_n (i := 3) d_K_net_55 rfl rfl ?_
      refine ab_if_eq (tgt := 74) d_K_net_56 (by decide) (fun c6 => ?_) (fun c6 => ?_)
      · have h := h.1 c6
        refine ab_aload_n (i := 0) d_K_net_74 rfl rfl ?_
        refine ab_getR (ci := 10) (k := 3) (j := kx_now) d_K_net_75 v_475 rfl (by decide) (by decide) rfl r_kx_3 ?_
        refine ab_aload_n (i := 0) d_K_net_78 rfl rfl ?_
        refine ab_getR (ci := 10) (k := 8) (j := kx_trial) d_K_net_79 v_480 rfl (by decide) (by decide) rfl r_kx_8 ?_
        obtain ⟨I8, hC, h⟩ := h
        refine ab_callV (me2 := mt_State_begin) (b := kx_now) (as := [.ref kx_trial]) (st := []) (rv := none) (M2 := (I8, (ab_row L kx_reader (fun _ => 0)), ab_RR, 92, (nc + 1), (ns + 9))) d_K_net_82 ce_State_begin v_910 v_911 v_912 (by decide) rfl (Nat.le_of_ble_eq_true rfl) hC (Nat.le_refl _) (Nat.le_refl _) hc hs (fun j h9 => by cases h9) (fun _ _ => rfl) ?_
        show ab_E w (d + 1) mt_K_net 85 [.ref kx, .int v1, .ref kx_reader, .int r4] [] (I8, (ab_row L kx_reader (fun _ => 0)), ab_RR, 92, (nc + 1), (ns + 9)) res
        refine ab_aload_n (i := 0) d_K_net_85 rfl rfl ?_
        refine ab_iconst (v := 0) d_K_net_86 rfl ?_
        refine ab_putI (ci := 10) (k := 5) d_K_net_87 v_477 rfl (by decide) (by decide) rfl (Or.inl rfl) rfl rfl ?_
        refine ab_aload_n (i := 0) d_K_net_90 rfl rfl ?_
        obtain ⟨I10, hC, h⟩ := h
        refine ab_callV (me2 := mt_K_settle) (b := kx) (as := []) (st := []) (rv := none) (M2 := (I10, (ab_row L kx_reader (fun _ => 0)), ab_RR, 92, (nc + 1), (ns + 9))) d_K_net_91 ce_K_settle v_436 v_438 v_0 (by decide) rfl (Nat.le_of_ble_eq_true rfl) hC (Nat.le_refl _) (Nat.le_refl _) hc hs (fun j h9 => by cases h9) (fun _ _ => rfl) ?_
        show ab_E w (d + 1) mt_K_net 94 [.ref kx, .int v1, .ref kx_reader, .int r4] [] (I10, (ab_row L kx_reader (fun _ => 0)), ab_RR, 92, (nc + 1), (ns + 9)) res
        refine ab_iconst (v := 0) d_K_net_94 rfl ?_
        exact ab_iret (ty := .int) d_K_net_95 rfl rfl h
      · have h := h.2 c6
        refine ab_aload_n (i := 0) d_K_net_59 rfl rfl ?_
        refine ab_getR (ci := 10) (k := 3) (j := kx_now) d_K_net_60 v_475 rfl (by decide) (by decide) rfl r_kx_3 ?_
        refine ab_getR (ci := 6) (k := 6) (j := kx_now_refused) d_K_net_63 v_306 rfl (by decide) (by decide) rfl r_kx_now_6 ?_
        refine ab_iconst (v := 0) d_K_net_66 rfl ?_
        refine ab_dup2 d_K_net_67 ?_
        refine ab_iald d_K_net_68 rfl rfl (by unfold vp_in; decide) ?_
        refine ab_iconst (v := 1) d_K_net_69 rfl ?_
        refine ab_iadd d_K_net_70 ?_
        refine ab_iast d_K_net_71 rfl rfl (by unfold vp_in; decide) ?_
        refine ab_iload_n (i := 3) d_K_net_72 rfl rfl ?_
        exact ab_iret (ty := .int) d_K_net_73 rfl rfl h
    · have h := h.2 c2
      exact ab_throw (E := "java/lang/IllegalArgumentException") d_K_net_12 d_K_net_15 d_K_net_16 d_K_net_19 (by decide +kernel) rfl v_698 v_155 x3_K_92 x4_K_92 h8 (Nat.le_of_ble_eq_true rfl) h
theorem cx_K_fault_0 {w : ab_Wd} {d n nc ns : Nat} {I : Nat → Nat → Int32} {L : Nat → Nat → Int64}  (hT : w.1.stackTraces = false)  : ab_C w d mt_K_fault [.ref kx] (I, L, ab_RR, n, nc, ns) (.inl (some (.int (I kx 2))), (I, L, ab_RR, n, nc, ns)) := by
  refine ab_C_of (by decide) rfl (Nat.le_of_ble_eq_true rfl) hT ?_
  have hc := Nat.le_refl nc
  have hs := Nat.le_refl ns
  refine ab_aload_n (i := 0) d_K_fault_0 rfl rfl ?_
  refine ab_getI (ci := 10) (k := 2) d_K_fault_1 v_474 rfl (by decide) (by decide) rfl ?_
  exact ab_iret (ty := .int) d_K_fault_4 rfl rfl rfl
theorem cx_Swaps_shown_0 {w : ab_Wd} {d n nc ns : Nat} {I : Nat → Nat → Int32} {L : Nat → Nat → Int64}  (hT : w.1.stackTraces = false)  : ab_C w (d + 1) mt_Swaps_shown [.ref kx_now_swaps] (I, L, ab_RR, n, nc, ns) (.inl (some (.int (ab_min32 (I kx_now_swaps 1) 60))), (I, L, ab_RR, n, nc, ns)) := by
  refine ab_C_of (by decide) rfl (Nat.le_of_ble_eq_true rfl) hT ?_
  have hc := Nat.le_refl nc
  have hs := Nat.le_refl ns
  refine ab_aload_n (i := 0) d_Swaps_shown_0 rfl rfl ?_
  refine ab_getI (ci := 7) (k := 1) d_Swaps_shown_1 v_259 rfl (by decide) (by decide) rfl ?_
  refine ab_bipush (v := 60) d_Swaps_shown_4 rfl ?_
  refine ab_min d_Swaps_shown_6 v_931 v_448 v_150 v_449 (Nat.succ_le_succ (Nat.zero_le _)) (Nat.le_of_ble_eq_true rfl) hc hs ?_
  exact ab_iret (ty := .int) d_Swaps_shown_9 rfl rfl rfl
theorem r_K_count_0 {w : ab_Wd} {d n nc ns : Nat} {I : Nat → Nat → Int32} {L : Nat → Nat → Int64} {res : ab_Re} (hT : w.1.stackTraces = false) (v1 : Int32) (h8 : 8 ≤ (d + 2)) (hc : nc ≤ res.2.2.2.2.2.1) (hs : ns ≤ res.2.2.2.2.2.2)
    (h : ((v1 = 0 → (res = (.inl (some (.int (I kx_now_cables 0))), (I, L, ab_RR, n, nc, ns)))) ∧ (v1 = 1 → (res = (.inl (some (.int (I kx_now_cables 1))), (I, L, ab_RR, n, nc, ns)))) ∧ (v1 = 2 → (res = (.inl (some (.int (I kx_now_cables 2))), (I, L, ab_RR, n, nc, ns)))) ∧ (v1 = 3 → (res = (.inl (some (.int (I kx_forest 2))), (I, L, ab_RR, n, nc, ns)))) ∧ (v1 = 4 → (res = (.inl (some (.int (I kx_forest 3))), (I, L, ab_RR, n, nc, ns)))) ∧ (v1 = 5 → (res = (.inl (some (.int (I kx_forest 4))), (I, L, ab_RR, n, nc, ns)))) ∧ (v1 = 6 → (res = (.inl (some (.int (ab_min32 (I kx_now_swaps 1) 60))), (I, L, ab_RR, n, nc, ns)))) ∧ (v1 = 7 → (res = (.inl (some (.int (I kx_now_swaps 1))), (I, L, ab_RR, n, nc, ns)))) ∧ (v1 = 8 → (∃ (r2 : Int32), ab_C w (d + 1) mt_K_nextBest [.ref kx] (I, L, ab_RR, n, nc, ns) (.inl (some (.int r2)), (I, L, ab_RR, n, nc, ns)) ∧ res = (.inl (some (.int r2)), (I, L, ab_RR, n, nc, ns)))) ∧ (v1 = 9 → (∃ (r3 : Int32), ab_C w (d + 1) mt_K_hub [.ref kx] (I, L, ab_RR, n, nc, ns) (.inl (some (.int r3)), (I, L, ab_RR, n, nc, ns)) ∧ res = (.inl (some (.int r3)), (I, L, ab_RR, n, nc, ns)))) ∧ (v1 = 10 → (∃ (r4 : Int32), ab_C w (d + 1) mt_Ways_longest [.ref kx_ways] (I, L, ab_RR, n, nc, ns) (.inl (some (.int r4)), (I, L, ab_RR, n, nc, ns)) ∧ res = (.inl (some (.int r4)), (I, L, ab_RR, n, nc, ns)))) ∧ (v1 = 11 → (∃ (r5 : Int32) (I6 : Nat → Nat → Int32), ab_C w (d + 1) mt_K_twins [.ref kx] (I, L, ab_RR, n, nc, ns) (.inl (some (.int r5)), (I6, L, ab_RR, n, nc, ns)) ∧ res = (.inl (some (.int r5)), (I6, L, ab_RR, n, nc, ns)))) ∧ (v1 = 12 → (res = (.inl (some (.int (I kx_now_acts 5))), (I, L, ab_RR, n, nc, ns)))) ∧ (v1 = 13 → (res = (.inl (some (.int (I kx_now 3))), (I, L, ab_RR, n, nc, ns)))) ∧ (v1 = 14 → (res = (.inl (some (.int (I kx 1))), (I, L, ab_RR, n, nc, ns)))) ∧ (v1 = 15 → (res = (.inl (some (.int (I kx_now_refused 0))), (I, L, ab_RR, n, nc, ns)))) ∧ (v1 = 16 → (res = (.inl (some (.int (I kx_now_refused 1))), (I, L, ab_RR, n, nc, ns)))) ∧ (v1 = 17 → (res = (.inl (some (.int (I kx_now_refused 2))), (I, L, ab_RR, n, nc, ns)))) ∧ (v1 = 18 → (∃ (r7 : Int32) (I8 : Nat → Nat → Int32), ab_C w (d + 1) mt_K_weakCouples [.ref kx] (I, L, ab_RR, n, nc, ns) (.inl (some (.int r7)), (I8, L, ab_RR, n, nc, ns)) ∧ res = (.inl (some (.int r7)), (I8, L, ab_RR, n, nc, ns)))) ∧ (v1 = 19 → (∃ (r9 : Int32) (I10 : Nat → Nat → Int32), ab_C w (d + 1) mt_K_firstWeak [.ref kx] (I, L, ab_RR, n, nc, ns) (.inl (some (.int r9)), (I10, L, ab_RR, n, nc, ns)) ∧ res = (.inl (some (.int r9)), (I10, L, ab_RR, n, nc, ns)))) ∧ (v1 = 20 → (∃ (r11 : Int32), ab_C w (d + 1) mt_Ways_centre [.ref kx_ways] (I, L, ab_RR, n, nc, ns) (.inl (some (.int r11)), (I, L, ab_RR, n, nc, ns)) ∧ res = (.inl (some (.int r11)), (I, L, ab_RR, n, nc, ns)))) ∧ (v1 = 21 → (∃ (r12 : Int32), ab_C w (d + 1) mt_Ways_centre [.ref kx_ways] (I, L, ab_RR, n, nc, ns) (.inl (some (.int r12)), (I, L, ab_RR, n, nc, ns)) ∧ ∃ (r13 : Int32), ab_C w (d + 1) mt_Ways_farthest [.ref kx_ways, .int r12] (I, L, ab_RR, n, nc, ns) (.inl (some (.int r13)), (I, L, ab_RR, n, nc, ns)) ∧ res = (.inl (some (.int r13)), (I, L, ab_RR, n, nc, ns)))) ∧ (v1 = 22 → (∃ (r14 : Int32) (I15 : Nat → Nat → Int32), ab_C w (d + 1) mt_K_detours [.ref kx] (I, L, ab_RR, n, nc, ns) (.inl (some (.int r14)), (I15, L, ab_RR, n, nc, ns)) ∧ res = (.inl (some (.int r14)), (I15, L, ab_RR, n, nc, ns)))) ∧ ((v1.toInt < 0 ∨ 22 < v1.toInt) → (res = (.inr "java/util/NoSuchElementException", (I, L, ab_RR, n, nc + 1, ns + 6)))))) : ab_E w (d + 2) mt_K_count 0 [.ref kx, .int v1] [] (I, L, ab_RR, n, nc, ns) res := by
  refine ab_iload_n (i := 1) d_K_count_0 rfl rfl ?_
  by_cases c16 : v1 = 0
  · have h := h.1 c16
    refine ab_tabIn (tgt := 108) d_K_count_1 (by rw [c16]; decide) (by rw [c16]; decide) (by rw [ab_tab_in (j := 0) c16 (by decide)]; rfl) (by decide) ?_
    refine ab_aload_n (i := 0) d_K_count_108 rfl rfl ?_
    refine ab_getR (ci := 10) (k := 3) (j := kx_now) d_K_count_109 v_475 rfl (by decide) (by decide) rfl r_kx_3 ?_
    refine ab_getR (ci := 6) (k := 0) (j := kx_now_cables) d_K_count_112 v_294 rfl (by decide) (by decide) rfl r_kx_now_0 ?_
    refine ab_getI (ci := 1) (k := 0) d_K_count_115 v_190 rfl (by decide) (by decide) rfl ?_
    exact ab_iret (ty := .int) d_K_count_118 rfl rfl h
  by_cases c17 : v1 = 1
  · have h := h.2.1 c17
    refine ab_tabIn (tgt := 119) d_K_count_1 (by rw [c17]; decide) (by rw [c17]; decide) (by rw [ab_tab_in (j := 1) c17 (by decide)]; rfl) (by decide) ?_
    refine ab_aload_n (i := 0) d_K_count_119 rfl rfl ?_
    refine ab_getR (ci := 10) (k := 3) (j := kx_now) d_K_count_120 v_475 rfl (by decide) (by decide) rfl r_kx_3 ?_
    refine ab_getR (ci := 6) (k := 0) (j := kx_now_cables) d_K_count_123 v_294 rfl (by decide) (by decide) rfl r_kx_now_0 ?_
    refine ab_getI (ci := 1) (k := 1) d_K_count_126 v_199 rfl (by decide) (by decide) rfl ?_
    exact ab_iret (ty := .int) d_K_count_129 rfl rfl h
  by_cases c18 : v1 = 2
  · have h := h.2.2.1 c18
    refine ab_tabIn (tgt := 130) d_K_count_1 (by rw [c18]; decide) (by rw [c18]; decide) (by rw [ab_tab_in (j := 2) c18 (by decide)]; rfl) (by decide) ?_
    refine ab_aload_n (i := 0) d_K_count_130 rfl rfl ?_
    refine ab_getR (ci := 10) (k := 3) (j := kx_now) d_K_count_131 v_475 rfl (by decide) (by decide) rfl r_kx_3 ?_
    refine ab_getR (ci := 6) (k := 0) (j := kx_now_cables) d_K_count_134 v_294 rfl (by decide) (by decide) rfl r_kx_now_0 ?_
    refine ab_getI (ci := 1) (k := 2) d_K_count_137 v_202 rfl (by decide) (by decide) rfl ?_
    exact ab_iret (ty := .int) d_K_count_140 rfl rfl h
  by_cases c19 : v1 = 3
  · have h := h.2.2.2.1 c19
    refine ab_tabIn (tgt := 141) d_K_count_1 (by rw [c19]; decide) (by rw [c19]; decide) (by rw [ab_tab_in (j := 3) c19 (by decide)]; rfl) (by decide) ?_
    refine ab_aload_n (i := 0) d_K_count_141 rfl rfl ?_
    refine ab_getR (ci := 10) (k := 6) (j := kx_forest) d_K_count_142 v_478 rfl (by decide) (by decide) rfl r_kx_6 ?_
    refine ab_getI (ci := 2) (k := 2) d_K_count_145 v_335 rfl (by decide) (by decide) rfl ?_
    exact ab_iret (ty := .int) d_K_count_148 rfl rfl h
  by_cases c20 : v1 = 4
  · have h := h.2.2.2.2.1 c20
    refine ab_tabIn (tgt := 149) d_K_count_1 (by rw [c20]; decide) (by rw [c20]; decide) (by rw [ab_tab_in (j := 4) c20 (by decide)]; rfl) (by decide) ?_
    refine ab_aload_n (i := 0) d_K_count_149 rfl rfl ?_
    refine ab_getR (ci := 10) (k := 6) (j := kx_forest) d_K_count_150 v_478 rfl (by decide) (by decide) rfl r_kx_6 ?_
    refine ab_getI (ci := 2) (k := 3) d_K_count_153 v_337 rfl (by decide) (by decide) rfl ?_
    exact ab_iret (ty := .int) d_K_count_156 rfl rfl h
  by_cases c21 : v1 = 5
  · have h := h.2.2.2.2.2.1 c21
    refine ab_tabIn (tgt := 157) d_K_count_1 (by rw [c21]; decide) (by rw [c21]; decide) (by rw [ab_tab_in (j := 5) c21 (by decide)]; rfl) (by decide) ?_
    refine ab_aload_n (i := 0) d_K_count_157 rfl rfl ?_
    refine ab_getR (ci := 10) (k := 6) (j := kx_forest) d_K_count_158 v_478 rfl (by decide) (by decide) rfl r_kx_6 ?_
    refine ab_getI (ci := 2) (k := 4) d_K_count_161 v_339 rfl (by decide) (by decide) rfl ?_
    exact ab_iret (ty := .int) d_K_count_164 rfl rfl h
  by_cases c22 : v1 = 6
  · have h := h.2.2.2.2.2.2.1 c22
    refine ab_tabIn (tgt := 165) d_K_count_1 (by rw [c22]; decide) (by rw [c22]; decide) (by rw [ab_tab_in (j := 6) c22 (by decide)]; rfl) (by decide) ?_
    refine ab_aload_n (i := 0) d_K_count_165 rfl rfl ?_
    refine ab_getR (ci := 10) (k := 3) (j := kx_now) d_K_count_166 v_475 rfl (by decide) (by decide) rfl r_kx_3 ?_
    refine ab_getR (ci := 6) (k := 1) (j := kx_now_swaps) d_K_count_169 v_296 rfl (by decide) (by decide) rfl r_kx_now_1 ?_
    refine ab_callV (me2 := mt_Swaps_shown) (b := kx_now_swaps) (as := []) (st := []) (rv := (some (.int (ab_min32 (I kx_now_swaps 1) 60)))) (M2 := (I, L, ab_RR, n, nc, ns)) d_K_count_172 ce_Swaps_shown v_927 v_928 v_929 (by decide) rfl (Nat.le_of_ble_eq_true rfl) (cx_Swaps_shown_0  hT) (Nat.le_refl _) (Nat.le_refl _) hc hs (fun j h9 => by cases h9) (fun _ _ => rfl) ?_
    show ab_E w (d + 2) mt_K_count 175 [.ref kx, .int v1] [.int (ab_min32 (I kx_now_swaps 1) 60)] (I, L, ab_RR, n, nc, ns) res
    exact ab_iret (ty := .int) d_K_count_175 rfl rfl h
  by_cases c23 : v1 = 7
  · have h := h.2.2.2.2.2.2.2.1 c23
    refine ab_tabIn (tgt := 176) d_K_count_1 (by rw [c23]; decide) (by rw [c23]; decide) (by rw [ab_tab_in (j := 7) c23 (by decide)]; rfl) (by decide) ?_
    refine ab_aload_n (i := 0) d_K_count_176 rfl rfl ?_
    refine ab_getR (ci := 10) (k := 3) (j := kx_now) d_K_count_177 v_475 rfl (by decide) (by decide) rfl r_kx_3 ?_
    refine ab_getR (ci := 6) (k := 1) (j := kx_now_swaps) d_K_count_180 v_296 rfl (by decide) (by decide) rfl r_kx_now_1 ?_
    refine ab_getI (ci := 7) (k := 1) d_K_count_183 v_261 rfl (by decide) (by decide) rfl ?_
    exact ab_iret (ty := .int) d_K_count_186 rfl rfl h
  by_cases c24 : v1 = 8
  · have h := h.2.2.2.2.2.2.2.2.1 c24
    refine ab_tabIn (tgt := 187) d_K_count_1 (by rw [c24]; decide) (by rw [c24]; decide) (by rw [ab_tab_in (j := 8) c24 (by decide)]; rfl) (by decide) ?_
    refine ab_aload_n (i := 0) d_K_count_187 rfl rfl ?_
    obtain ⟨r2, hC, h⟩ := h
    refine ab_callV (me2 := mt_K_nextBest) (b := kx) (as := []) (st := []) (rv := (some (.int r2))) (M2 := (I, L, ab_RR, n, nc, ns)) d_K_count_188 ce_K_nextBest v_932 v_934 v_27 (by decide) rfl (Nat.le_of_ble_eq_true rfl) hC (Nat.le_refl _) (Nat.le_refl _) hc hs (fun j h9 => by cases h9) (fun _ _ => rfl) ?_
    show ab_E w (d + 2) mt_K_count 191 [.ref kx, .int v1] [.int r2] (I, L, ab_RR, n, nc, ns) res
    exact ab_iret (ty := .int) d_K_count_191 rfl rfl h
  by_cases c25 : v1 = 9
  · have h := h.2.2.2.2.2.2.2.2.2.1 c25
    refine ab_tabIn (tgt := 192) d_K_count_1 (by rw [c25]; decide) (by rw [c25]; decide) (by rw [ab_tab_in (j := 9) c25 (by decide)]; rfl) (by decide) ?_
    refine ab_aload_n (i := 0) d_K_count_192 rfl rfl ?_
    obtain ⟨r3, hC, h⟩ := h
    refine ab_callV (me2 := mt_K_hub) (b := kx) (as := []) (st := []) (rv := (some (.int r3))) (M2 := (I, L, ab_RR, n, nc, ns)) d_K_count_193 ce_K_hub v_952 v_954 v_31 (by decide) rfl (Nat.le_of_ble_eq_true rfl) hC (Nat.le_refl _) (Nat.le_refl _) hc hs (fun j h9 => by cases h9) (fun _ _ => rfl) ?_
    show ab_E w (d + 2) mt_K_count 196 [.ref kx, .int v1] [.int r3] (I, L, ab_RR, n, nc, ns) res
    exact ab_iret (ty := .int) d_K_count_196 rfl rfl h
  by_cases c26 : v1 = 10
  · have h := h.2.2.2.2.2.2.2.2.2.2.1 c26
    refine ab_tabIn (tgt := 197) d_K_count_1 (by rw [c26]; decide) (by rw [c26]; decide) (by rw [ab_tab_in (j := 10) c26 (by decide)]; rfl) (by decide) ?_
    refine ab_aload_n (i := 0) d_K_count_197 rfl rfl ?_
    refine ab_getR (ci := 10) (k := 7) (j := kx_ways) d_K_count_198 v_479 rfl (by decide) (by decide) rfl r_kx_7 ?_
    obtain ⟨r4, hC, h⟩ := h
    refine ab_callV (me2 := mt_Ways_longest) (b := kx_ways) (as := []) (st := []) (rv := (some (.int r4))) (M2 := (I, L, ab_RR, n, nc, ns)) d_K_count_201 ce_Ways_longest v_970 v_971 v_972 (by decide) rfl (Nat.le_of_ble_eq_true rfl) hC (Nat.le_refl _) (Nat.le_refl _) hc hs (fun j h9 => by cases h9) (fun _ _ => rfl) ?_
    show ab_E w (d + 2) mt_K_count 204 [.ref kx, .int v1] [.int r4] (I, L, ab_RR, n, nc, ns) res
    exact ab_iret (ty := .int) d_K_count_204 rfl rfl h
  by_cases c27 : v1 = 11
  · have h := h.2.2.2.2.2.2.2.2.2.2.2.1 c27
    refine ab_tabIn (tgt := 205) d_K_count_1 (by rw [c27]; decide) (by rw [c27]; decide) (by rw [ab_tab_in (j := 11) c27 (by decide)]; rfl) (by decide) ?_
    refine ab_aload_n (i := 0) d_K_count_205 rfl rfl ?_
    obtain ⟨r5, I6, hC, h⟩ := h
    refine ab_callV (me2 := mt_K_twins) (b := kx) (as := []) (st := []) (rv := (some (.int r5))) (M2 := (I6, L, ab_RR, n, nc, ns)) d_K_count_206 ce_K_twins v_979 v_981 v_33 (by decide) rfl (Nat.le_of_ble_eq_true rfl) hC (Nat.le_refl _) (Nat.le_refl _) hc hs (fun j h9 => by cases h9) (fun _ _ => rfl) ?_
    show ab_E w (d + 2) mt_K_count 209 [.ref kx, .int v1] [.int r5] (I6, L, ab_RR, n, nc, ns) res
    exact ab_iret (ty := .int) d_K_count_209 rfl rfl h
  by_cases c28 : v1 = 12
  · have h := h.2.2.2.2.2.2.2.2.2.2.2.2.1 c28
    refine ab_tabIn (tgt := 210) d_K_count_1 (by rw [c28]; decide) (by rw [c28]; decide) (by rw [ab_tab_in (j := 12) c28 (by decide)]; rfl) (by decide) ?_
    refine ab_aload_n (i := 0) d_K_count_210 rfl rfl ?_
    refine ab_getR (ci := 10) (k := 3) (j := kx_now) d_K_count_211 v_475 rfl (by decide) (by decide) rfl r_kx_3 ?_
    refine ab_getR (ci := 6) (k := 2) (j := kx_now_acts) d_K_count_214 v_298 rfl (by decide) (by decide) rfl r_kx_now_2 ?_
    refine ab_getI (ci := 0) (k := 5) d_K_count_217 v_279 rfl (by decide) (by decide) rfl ?_
    exact ab_iret (ty := .int) d_K_count_220 rfl rfl h
  by_cases c29 : v1 = 13
  · have h := h.2.2.2.2.2.2.2.2.2.2.2.2.2.1 c29
    refine ab_tabIn (tgt := 221) d_K_count_1 (by rw [c29]; decide) (by rw [c29]; decide) (by rw [ab_tab_in (j := 13) c29 (by decide)]; rfl) (by decide) ?_
    refine ab_aload_n (i := 0) d_K_count_221 rfl rfl ?_
    refine ab_getR (ci := 10) (k := 3) (j := kx_now) d_K_count_222 v_475 rfl (by decide) (by decide) rfl r_kx_3 ?_
    refine ab_getI (ci := 6) (k := 3) d_K_count_225 v_300 rfl (by decide) (by decide) rfl ?_
    exact ab_iret (ty := .int) d_K_count_228 rfl rfl h
  by_cases c30 : v1 = 14
  · have h := h.2.2.2.2.2.2.2.2.2.2.2.2.2.2.1 c30
    refine ab_tabIn (tgt := 229) d_K_count_1 (by rw [c30]; decide) (by rw [c30]; decide) (by rw [ab_tab_in (j := 14) c30 (by decide)]; rfl) (by decide) ?_
    refine ab_aload_n (i := 0) d_K_count_229 rfl rfl ?_
    refine ab_getI (ci := 10) (k := 1) d_K_count_230 v_473 rfl (by decide) (by decide) rfl ?_
    exact ab_iret (ty := .int) d_K_count_233 rfl rfl h
  by_cases c31 : v1 = 15
  · have h := h.2.2.2.2.2.2.2.2.2.2.2.2.2.2.2.1 c31
    refine ab_tabIn (tgt := 234) d_K_count_1 (by rw [c31]; decide) (by rw [c31]; decide) (by rw [ab_tab_in (j := 15) c31 (by decide)]; rfl) (by decide) ?_
    refine ab_aload_n (i := 0) d_K_count_234 rfl rfl ?_
    refine ab_getR (ci := 10) (k := 3) (j := kx_now) d_K_count_235 v_475 rfl (by decide) (by decide) rfl r_kx_3 ?_
    refine ab_getR (ci := 6) (k := 6) (j := kx_now_refused) d_K_count_238 v_306 rfl (by decide) (by decide) rfl r_kx_now_6 ?_
    refine ab_iconst (v := 0) d_K_count_241 rfl ?_
    refine ab_iald d_K_count_242 rfl rfl (by unfold vp_in; decide) ?_
    exact ab_iret (ty := .int) d_K_count_243 rfl rfl h
  by_cases c32 : v1 = 16
  · have h := h.2.2.2.2.2.2.2.2.2.2.2.2.2.2.2.2.1 c32
    refine ab_tabIn (tgt := 244) d_K_count_1 (by rw [c32]; decide) (by rw [c32]; decide) (by rw [ab_tab_in (j := 16) c32 (by decide)]; rfl) (by decide) ?_
    refine ab_aload_n (i := 0) d_K_count_244 rfl rfl ?_
    refine ab_getR (ci := 10) (k := 3) (j := kx_now) d_K_count_245 v_475 rfl (by decide) (by decide) rfl r_kx_3 ?_
    refine ab_getR (ci := 6) (k := 6) (j := kx_now_refused) d_K_count_248 v_306 rfl (by decide) (by decide) rfl r_kx_now_6 ?_
    refine ab_iconst (v := 1) d_K_count_251 rfl ?_
    refine ab_iald d_K_count_252 rfl rfl (by unfold vp_in; decide) ?_
    exact ab_iret (ty := .int) d_K_count_253 rfl rfl h
  by_cases c33 : v1 = 17
  · have h := h.2.2.2.2.2.2.2.2.2.2.2.2.2.2.2.2.2.1 c33
    refine ab_tabIn (tgt := 254) d_K_count_1 (by rw [c33]; decide) (by rw [c33]; decide) (by rw [ab_tab_in (j := 17) c33 (by decide)]; rfl) (by decide) ?_
    refine ab_aload_n (i := 0) d_K_count_254 rfl rfl ?_
    refine ab_getR (ci := 10) (k := 3) (j := kx_now) d_K_count_255 v_475 rfl (by decide) (by decide) rfl r_kx_3 ?_
    refine ab_getR (ci := 6) (k := 6) (j := kx_now_refused) d_K_count_258 v_306 rfl (by decide) (by decide) rfl r_kx_now_6 ?_
    refine ab_iconst (v := 2) d_K_count_261 rfl ?_
    refine ab_iald d_K_count_262 rfl rfl (by unfold vp_in; decide) ?_
    exact ab_iret (ty := .int) d_K_count_263 rfl rfl h
  by_cases c34 : v1 = 18
  · have h := h.2.2.2.2.2.2.2.2.2.2.2.2.2.2.2.2.2.2.1 c34
    refine ab_tabIn (tgt := 264) d_K_count_1 (by rw [c34]; decide) (by rw [c34]; decide) (by rw [ab_tab_in (j := 18) c34 (by decide)]; rfl) (by decide) ?_
    refine ab_aload_n (i := 0) d_K_count_264 rfl rfl ?_
    obtain ⟨r7, I8, hC, h⟩ := h
    refine ab_callV (me2 := mt_K_weakCouples) (b := kx) (as := []) (st := []) (rv := (some (.int r7))) (M2 := (I8, L, ab_RR, n, nc, ns)) d_K_count_265 ce_K_weakCouples v_984 v_986 v_34 (by decide) rfl (Nat.le_of_ble_eq_true rfl) hC (Nat.le_refl _) (Nat.le_refl _) hc hs (fun j h9 => by cases h9) (fun _ _ => rfl) ?_
    show ab_E w (d + 2) mt_K_count 268 [.ref kx, .int v1] [.int r7] (I8, L, ab_RR, n, nc, ns) res
    exact ab_iret (ty := .int) d_K_count_268 rfl rfl h
  by_cases c35 : v1 = 19
  · have h := h.2.2.2.2.2.2.2.2.2.2.2.2.2.2.2.2.2.2.2.1 c35
    refine ab_tabIn (tgt := 269) d_K_count_1 (by rw [c35]; decide) (by rw [c35]; decide) (by rw [ab_tab_in (j := 19) c35 (by decide)]; rfl) (by decide) ?_
    refine ab_aload_n (i := 0) d_K_count_269 rfl rfl ?_
    obtain ⟨r9, I10, hC, h⟩ := h
    refine ab_callV (me2 := mt_K_firstWeak) (b := kx) (as := []) (st := []) (rv := (some (.int r9))) (M2 := (I10, L, ab_RR, n, nc, ns)) d_K_count_270 ce_K_firstWeak v_1016 v_1018 v_39 (by decide) rfl (Nat.le_of_ble_eq_true rfl) hC (Nat.le_refl _) (Nat.le_refl _) hc hs (fun j h9 => by cases h9) (fun _ _ => rfl) ?_
    show ab_E w (d + 2) mt_K_count 273 [.ref kx, .int v1] [.int r9] (I10, L, ab_RR, n, nc, ns) res
    exact ab_iret (ty := .int) d_K_count_273 rfl rfl h
  by_cases c36 : v1 = 20
  · have h := h.2.2.2.2.2.2.2.2.2.2.2.2.2.2.2.2.2.2.2.2.1 c36
    refine ab_tabIn (tgt := 274) d_K_count_1 (by rw [c36]; decide) (by rw [c36]; decide) (by rw [ab_tab_in (j := 20) c36 (by decide)]; rfl) (by decide) ?_
    refine ab_aload_n (i := 0) d_K_count_274 rfl rfl ?_
    refine ab_getR (ci := 10) (k := 7) (j := kx_ways) d_K_count_275 v_479 rfl (by decide) (by decide) rfl r_kx_7 ?_
    obtain ⟨r11, hC, h⟩ := h
    refine ab_callV (me2 := mt_Ways_centre) (b := kx_ways) (as := []) (st := []) (rv := (some (.int r11))) (M2 := (I, L, ab_RR, n, nc, ns)) d_K_count_278 ce_Ways_centre v_1020 v_1021 v_1022 (by decide) rfl (Nat.le_of_ble_eq_true rfl) hC (Nat.le_refl _) (Nat.le_refl _) hc hs (fun j h9 => by cases h9) (fun _ _ => rfl) ?_
    show ab_E w (d + 2) mt_K_count 281 [.ref kx, .int v1] [.int r11] (I, L, ab_RR, n, nc, ns) res
    exact ab_iret (ty := .int) d_K_count_281 rfl rfl h
  by_cases c37 : v1 = 21
  · have h := h.2.2.2.2.2.2.2.2.2.2.2.2.2.2.2.2.2.2.2.2.2.1 c37
    refine ab_tabIn (tgt := 282) d_K_count_1 (by rw [c37]; decide) (by rw [c37]; decide) (by rw [ab_tab_in (j := 21) c37 (by decide)]; rfl) (by decide) ?_
    refine ab_aload_n (i := 0) d_K_count_282 rfl rfl ?_
    refine ab_getR (ci := 10) (k := 7) (j := kx_ways) d_K_count_283 v_479 rfl (by decide) (by decide) rfl r_kx_7 ?_
    refine ab_aload_n (i := 0) d_K_count_286 rfl rfl ?_
    refine ab_getR (ci := 10) (k := 7) (j := kx_ways) d_K_count_287 v_479 rfl (by decide) (by decide) rfl r_kx_7 ?_
    obtain ⟨r12, hC, h⟩ := h
    refine ab_callV (me2 := mt_Ways_centre) (b := kx_ways) (as := []) (st := [.ref kx_ways]) (rv := (some (.int r12))) (M2 := (I, L, ab_RR, n, nc, ns)) d_K_count_290 ce_Ways_centre v_1020 v_1021 v_1022 (by decide) rfl (Nat.le_of_ble_eq_true rfl) hC (Nat.le_refl _) (Nat.le_refl _) hc hs (fun j h9 => by cases h9) (fun _ _ => rfl) ?_
    show ab_E w (d + 2) mt_K_count 293 [.ref kx, .int v1] [.int r12, .ref kx_ways] (I, L, ab_RR, n, nc, ns) res
    obtain ⟨r13, hC, h⟩ := h
    refine ab_callV (me2 := mt_Ways_farthest) (b := kx_ways) (as := [.int r12]) (st := []) (rv := (some (.int r13))) (M2 := (I, L, ab_RR, n, nc, ns)) d_K_count_293 ce_Ways_farthest v_1024 v_975 v_976 (by decide) rfl (Nat.le_of_ble_eq_true rfl) hC (Nat.le_refl _) (Nat.le_refl _) hc hs (fun j h9 => by cases h9) (fun _ _ => rfl) ?_
    show ab_E w (d + 2) mt_K_count 296 [.ref kx, .int v1] [.int r13] (I, L, ab_RR, n, nc, ns) res
    exact ab_iret (ty := .int) d_K_count_296 rfl rfl h
  by_cases c38 : v1 = 22
  · have h := h.2.2.2.2.2.2.2.2.2.2.2.2.2.2.2.2.2.2.2.2.2.2.1 c38
    refine ab_tabIn (tgt := 297) d_K_count_1 (by rw [c38]; decide) (by rw [c38]; decide) (by rw [ab_tab_in (j := 22) c38 (by decide)]; rfl) (by decide) ?_
    refine ab_aload_n (i := 0) d_K_count_297 rfl rfl ?_
    obtain ⟨r14, I15, hC, h⟩ := h
    refine ab_callV (me2 := mt_K_detours) (b := kx) (as := []) (st := []) (rv := (some (.int r14))) (M2 := (I15, L, ab_RR, n, nc, ns)) d_K_count_298 ce_K_detours v_1025 v_1027 v_40 (by decide) rfl (Nat.le_of_ble_eq_true rfl) hC (Nat.le_refl _) (Nat.le_refl _) hc hs (fun j h9 => by cases h9) (fun _ _ => rfl) ?_
    show ab_E w (d + 2) mt_K_count 301 [.ref kx, .int v1] [.int r14] (I15, L, ab_RR, n, nc, ns) res
    exact ab_iret (ty := .int) d_K_count_301 rfl rfl h
  have hr : v1.toInt < 0 ∨ 22 < v1.toInt := by
    rcases Int.lt_or_le v1.toInt 0 with h9 | h9
    · exact Or.inl h9
    · refine Or.inr (Int.not_le.mp fun h8 => ?_)
      exact ab_tab_out (lo := 0) (hi := 22) (k := 23) h9 h8 (by decide) (by
        intro j hj
        match j, hj with
        | 0, _ => exact c16
        | 1, _ => exact c17
        | 2, _ => exact c18
        | 3, _ => exact c19
        | 4, _ => exact c20
        | 5, _ => exact c21
        | 6, _ => exact c22
        | 7, _ => exact c23
        | 8, _ => exact c24
        | 9, _ => exact c25
        | 10, _ => exact c26
        | 11, _ => exact c27
        | 12, _ => exact c28
        | 13, _ => exact c29
        | 14, _ => exact c30
        | 15, _ => exact c31
        | 16, _ => exact c32
        | 17, _ => exact c33
        | 18, _ => exact c34
        | 19, _ => exact c35
        | 20, _ => exact c36
        | 21, _ => exact c37
        | 22, _ => exact c38
        | j9 + 23, hj => exact absurd hj (by omega))
  have h := h.2.2.2.2.2.2.2.2.2.2.2.2.2.2.2.2.2.2.2.2.2.2.2 hr
  refine ab_tabOut (tgt := 302) d_K_count_1 hr (by decide) ?_
  exact ab_throw (E := "java/util/NoSuchElementException") d_K_count_302 d_K_count_305 d_K_count_306 d_K_count_309 (by decide +kernel) rfl v_1049 v_163 x3_K_185 x4_K_185 h8 (Nat.le_of_ble_eq_true rfl) h
theorem cx_Cables_isSound_0_0 {w : ab_Wd} {d n nc ns : Nat} {I : Nat → Nat → Int32} {L : Nat → Nat → Int64} (v1 : Int32) (hT : w.1.stackTraces = false) (e1 : ¬ (((I kx_now_cables 2) >>> (v1 &&& 31)) &&& 1) = 1) : ab_C w d mt_Cables_isSound [.ref kx_now_cables, .int v1] (I, L, ab_RR, n, nc, ns) (.inl (some (.int 0)), (I, L, ab_RR, n, nc, ns)) := by
  refine ab_C_of (by decide) rfl (Nat.le_of_ble_eq_true rfl) hT ?_
  have hc := Nat.le_refl nc
  have hs := Nat.le_refl ns
  refine ab_aload_n (i := 0) d_Cables_isSound_0 rfl rfl ?_
  refine ab_getI (ci := 1) (k := 2) d_Cables_isSound_1 v_200 rfl (by decide) (by decide) rfl ?_
  refine ab_iload_n (i := 1) d_Cables_isSound_4 rfl rfl ?_
  refine ab_ishr d_Cables_isSound_5 ?_
  refine ab_iconst (v := 1) d_Cables_isSound_6 rfl ?_
  refine ab_iand d_Cables_isSound_7 ?_
  refine ab_iconst (v := 1) d_Cables_isSound_8 rfl ?_
  refine ab_icmp_ne (tgt := 16) d_Cables_isSound_9 (by decide) (fun _ => ?_) (fun c9 => absurd c9 e1)
  refine ab_iconst (v := 0) d_Cables_isSound_16 rfl ?_
  exact ab_iret (ty := .boolean) d_Cables_isSound_17 rfl rfl rfl
theorem cx_Cables_isSound_0_1 {w : ab_Wd} {d n nc ns : Nat} {I : Nat → Nat → Int32} {L : Nat → Nat → Int64} (v1 : Int32) (hT : w.1.stackTraces = false) (e1 : (((I kx_now_cables 2) >>> (v1 &&& 31)) &&& 1) = 1) : ab_C w d mt_Cables_isSound [.ref kx_now_cables, .int v1] (I, L, ab_RR, n, nc, ns) (.inl (some (.int 1)), (I, L, ab_RR, n, nc, ns)) := by
  refine ab_C_of (by decide) rfl (Nat.le_of_ble_eq_true rfl) hT ?_
  have hc := Nat.le_refl nc
  have hs := Nat.le_refl ns
  refine ab_aload_n (i := 0) d_Cables_isSound_0 rfl rfl ?_
  refine ab_getI (ci := 1) (k := 2) d_Cables_isSound_1 v_200 rfl (by decide) (by decide) rfl ?_
  refine ab_iload_n (i := 1) d_Cables_isSound_4 rfl rfl ?_
  refine ab_ishr d_Cables_isSound_5 ?_
  refine ab_iconst (v := 1) d_Cables_isSound_6 rfl ?_
  refine ab_iand d_Cables_isSound_7 ?_
  refine ab_iconst (v := 1) d_Cables_isSound_8 rfl ?_
  refine ab_icmp_ne (tgt := 16) d_Cables_isSound_9 (by decide) (fun c9 => absurd e1 c9) (fun _ => ?_)
  refine ab_iconst (v := 1) d_Cables_isSound_12 rfl ?_
  refine ab_goto (tgt := 17) d_Cables_isSound_13 (by decide) ?_
  exact ab_iret (ty := .boolean) d_Cables_isSound_17 rfl rfl rfl
theorem cx_K_isInside_0 {w : ab_Wd} {d n nc ns : Nat} {I : Nat → Nat → Int32} {L : Nat → Nat → Int64} (v1 : Int32) (hT : w.1.stackTraces = false) (e1 : ¬ (((I kx_forest 2) >>> (v1 &&& 31)) &&& 1) = 1) : ab_C w d mt_K_isInside [.ref kx, .int v1] (I, L, ab_RR, n, nc, ns) (.inl (some (.int 0)), (I, L, ab_RR, n, nc, ns)) := by
  refine ab_C_of (by decide) rfl (Nat.le_of_ble_eq_true rfl) hT ?_
  have hc := Nat.le_refl nc
  have hs := Nat.le_refl ns
  refine ab_aload_n (i := 0) d_K_isInside_0 rfl rfl ?_
  refine ab_getR (ci := 10) (k := 6) (j := kx_forest) d_K_isInside_1 v_478 rfl (by decide) (by decide) rfl r_kx_6 ?_
  refine ab_getI (ci := 2) (k := 2) d_K_isInside_4 v_335 rfl (by decide) (by decide) rfl ?_
  refine ab_iload_n (i := 1) d_K_isInside_7 rfl rfl ?_
  refine ab_ishr d_K_isInside_8 ?_
  refine ab_iconst (v := 1) d_K_isInside_9 rfl ?_
  refine ab_iand d_K_isInside_10 ?_
  refine ab_iconst (v := 1) d_K_isInside_11 rfl ?_
  refine ab_icmp_ne (tgt := 19) d_K_isInside_12 (by decide) (fun _ => ?_) (fun c9 => absurd c9 e1)
  refine ab_iconst (v := 0) d_K_isInside_19 rfl ?_
  exact ab_iret (ty := .boolean) d_K_isInside_20 rfl rfl rfl
theorem cx_K_isInside_1 {w : ab_Wd} {d n nc ns : Nat} {I : Nat → Nat → Int32} {L : Nat → Nat → Int64} (v1 : Int32) (hT : w.1.stackTraces = false) (e1 : (((I kx_forest 2) >>> (v1 &&& 31)) &&& 1) = 1) : ab_C w d mt_K_isInside [.ref kx, .int v1] (I, L, ab_RR, n, nc, ns) (.inl (some (.int 1)), (I, L, ab_RR, n, nc, ns)) := by
  refine ab_C_of (by decide) rfl (Nat.le_of_ble_eq_true rfl) hT ?_
  have hc := Nat.le_refl nc
  have hs := Nat.le_refl ns
  refine ab_aload_n (i := 0) d_K_isInside_0 rfl rfl ?_
  refine ab_getR (ci := 10) (k := 6) (j := kx_forest) d_K_isInside_1 v_478 rfl (by decide) (by decide) rfl r_kx_6 ?_
  refine ab_getI (ci := 2) (k := 2) d_K_isInside_4 v_335 rfl (by decide) (by decide) rfl ?_
  refine ab_iload_n (i := 1) d_K_isInside_7 rfl rfl ?_
  refine ab_ishr d_K_isInside_8 ?_
  refine ab_iconst (v := 1) d_K_isInside_9 rfl ?_
  refine ab_iand d_K_isInside_10 ?_
  refine ab_iconst (v := 1) d_K_isInside_11 rfl ?_
  refine ab_icmp_ne (tgt := 19) d_K_isInside_12 (by decide) (fun c9 => absurd e1 c9) (fun _ => ?_)
  refine ab_iconst (v := 1) d_K_isInside_15 rfl ?_
  refine ab_goto (tgt := 20) d_K_isInside_16 (by decide) ?_
  exact ab_iret (ty := .boolean) d_K_isInside_20 rfl rfl rfl
theorem cx_K_isOutside_0 {w : ab_Wd} {d n nc ns : Nat} {I : Nat → Nat → Int32} {L : Nat → Nat → Int64} (v1 : Int32) (hT : w.1.stackTraces = false) (e1 : ¬ (((I kx_now_cables 2) >>> (v1 &&& 31)) &&& 1) = 1) (e2 : (0 : Int32) = 0) : ab_C w (d + 1) mt_K_isOutside [.ref kx, .int v1] (I, L, ab_RR, n, nc, ns) (.inl (some (.int 0)), (I, L, ab_RR, n, nc, ns)) := by
  refine ab_C_of (by decide) rfl (Nat.le_of_ble_eq_true rfl) hT ?_
  have hc := Nat.le_refl nc
  have hs := Nat.le_refl ns
  refine ab_aload_n (i := 0) d_K_isOutside_0 rfl rfl ?_
  refine ab_getR (ci := 10) (k := 3) (j := kx_now) d_K_isOutside_1 v_475 rfl (by decide) (by decide) rfl r_kx_3 ?_
  refine ab_getR (ci := 6) (k := 0) (j := kx_now_cables) d_K_isOutside_4 v_294 rfl (by decide) (by decide) rfl r_kx_now_0 ?_
  refine ab_iload_n (i := 1) d_K_isOutside_7 rfl rfl ?_
  refine ab_callV (me2 := mt_Cables_isSound) (b := kx_now_cables) (as := [.int v1]) (st := []) (rv := (some (.int 0))) (M2 := (I, L, ab_RR, n, nc, ns)) d_K_isOutside_8 ce_Cables_isSound v_624 v_540 v_541 (by decide) rfl (Nat.le_of_ble_eq_true rfl) (cx_Cables_isSound_0_0 v1 hT e1) (Nat.le_refl _) (Nat.le_refl _) hc hs (fun j h9 => by cases h9) (fun _ _ => rfl) ?_
  show ab_E w (d + 1) mt_K_isOutside 11 [.ref kx, .int v1] [.int 0] (I, L, ab_RR, n, nc, ns) _
  refine ab_if_eq (tgt := 26) d_K_isOutside_11 (by decide) (fun _ => ?_) (fun c9 => absurd e2 c9)
  refine ab_iconst (v := 0) d_K_isOutside_26 rfl ?_
  exact ab_iret (ty := .boolean) d_K_isOutside_27 rfl rfl rfl
theorem cx_K_isOutside_1 {w : ab_Wd} {d n nc ns : Nat} {I : Nat → Nat → Int32} {L : Nat → Nat → Int64} (v1 : Int32) (hT : w.1.stackTraces = false) (e1 : (((I kx_now_cables 2) >>> (v1 &&& 31)) &&& 1) = 1) (e2 : ¬ (1 : Int32) = 0) (e3 : ¬ (((I kx_forest 2) >>> (v1 &&& 31)) &&& 1) = 1) (e4 : (0 : Int32) = 0) : ab_C w (d + 1) mt_K_isOutside [.ref kx, .int v1] (I, L, ab_RR, n, nc, ns) (.inl (some (.int 1)), (I, L, ab_RR, n, nc, ns)) := by
  refine ab_C_of (by decide) rfl (Nat.le_of_ble_eq_true rfl) hT ?_
  have hc := Nat.le_refl nc
  have hs := Nat.le_refl ns
  refine ab_aload_n (i := 0) d_K_isOutside_0 rfl rfl ?_
  refine ab_getR (ci := 10) (k := 3) (j := kx_now) d_K_isOutside_1 v_475 rfl (by decide) (by decide) rfl r_kx_3 ?_
  refine ab_getR (ci := 6) (k := 0) (j := kx_now_cables) d_K_isOutside_4 v_294 rfl (by decide) (by decide) rfl r_kx_now_0 ?_
  refine ab_iload_n (i := 1) d_K_isOutside_7 rfl rfl ?_
  refine ab_callV (me2 := mt_Cables_isSound) (b := kx_now_cables) (as := [.int v1]) (st := []) (rv := (some (.int 1))) (M2 := (I, L, ab_RR, n, nc, ns)) d_K_isOutside_8 ce_Cables_isSound v_624 v_540 v_541 (by decide) rfl (Nat.le_of_ble_eq_true rfl) (cx_Cables_isSound_0_1 v1 hT e1) (Nat.le_refl _) (Nat.le_refl _) hc hs (fun j h9 => by cases h9) (fun _ _ => rfl) ?_
  show ab_E w (d + 1) mt_K_isOutside 11 [.ref kx, .int v1] [.int 1] (I, L, ab_RR, n, nc, ns) _
  refine ab_if_eq (tgt := 26) d_K_isOutside_11 (by decide) (fun c9 => absurd c9 e2) (fun _ => ?_)
  refine ab_aload_n (i := 0) d_K_isOutside_14 rfl rfl ?_
  refine ab_iload_n (i := 1) d_K_isOutside_15 rfl rfl ?_
  refine ab_callV (me2 := mt_K_isInside) (b := kx) (as := [.int v1]) (st := []) (rv := (some (.int 0))) (M2 := (I, L, ab_RR, n, nc, ns)) d_K_isOutside_16 ce_K_isInside v_944 v_946 v_30 (by decide) rfl (Nat.le_of_ble_eq_true rfl) (cx_K_isInside_0 v1 hT e3) (Nat.le_refl _) (Nat.le_refl _) hc hs (fun j h9 => by cases h9) (fun _ _ => rfl) ?_
  show ab_E w (d + 1) mt_K_isOutside 19 [.ref kx, .int v1] [.int 0] (I, L, ab_RR, n, nc, ns) _
  refine ab_if_ne (tgt := 26) d_K_isOutside_19 (by decide) (fun c9 => absurd e4 c9) (fun _ => ?_)
  refine ab_iconst (v := 1) d_K_isOutside_22 rfl ?_
  refine ab_goto (tgt := 27) d_K_isOutside_23 (by decide) ?_
  exact ab_iret (ty := .boolean) d_K_isOutside_27 rfl rfl rfl
theorem cx_K_isOutside_2 {w : ab_Wd} {d n nc ns : Nat} {I : Nat → Nat → Int32} {L : Nat → Nat → Int64} (v1 : Int32) (hT : w.1.stackTraces = false) (e1 : (((I kx_now_cables 2) >>> (v1 &&& 31)) &&& 1) = 1) (e2 : ¬ (1 : Int32) = 0) (e3 : (((I kx_forest 2) >>> (v1 &&& 31)) &&& 1) = 1) (e4 : ¬ (1 : Int32) = 0) : ab_C w (d + 1) mt_K_isOutside [.ref kx, .int v1] (I, L, ab_RR, n, nc, ns) (.inl (some (.int 0)), (I, L, ab_RR, n, nc, ns)) := by
  refine ab_C_of (by decide) rfl (Nat.le_of_ble_eq_true rfl) hT ?_
  have hc := Nat.le_refl nc
  have hs := Nat.le_refl ns
  refine ab_aload_n (i := 0) d_K_isOutside_0 rfl rfl ?_
  refine ab_getR (ci := 10) (k := 3) (j := kx_now) d_K_isOutside_1 v_475 rfl (by decide) (by decide) rfl r_kx_3 ?_
  refine ab_getR (ci := 6) (k := 0) (j := kx_now_cables) d_K_isOutside_4 v_294 rfl (by decide) (by decide) rfl r_kx_now_0 ?_
  refine ab_iload_n (i := 1) d_K_isOutside_7 rfl rfl ?_
  refine ab_callV (me2 := mt_Cables_isSound) (b := kx_now_cables) (as := [.int v1]) (st := []) (rv := (some (.int 1))) (M2 := (I, L, ab_RR, n, nc, ns)) d_K_isOutside_8 ce_Cables_isSound v_624 v_540 v_541 (by decide) rfl (Nat.le_of_ble_eq_true rfl) (cx_Cables_isSound_0_1 v1 hT e1) (Nat.le_refl _) (Nat.le_refl _) hc hs (fun j h9 => by cases h9) (fun _ _ => rfl) ?_
  show ab_E w (d + 1) mt_K_isOutside 11 [.ref kx, .int v1] [.int 1] (I, L, ab_RR, n, nc, ns) _
  refine ab_if_eq (tgt := 26) d_K_isOutside_11 (by decide) (fun c9 => absurd c9 e2) (fun _ => ?_)
  refine ab_aload_n (i := 0) d_K_isOutside_14 rfl rfl ?_
  refine ab_iload_n (i := 1) d_K_isOutside_15 rfl rfl ?_
  refine ab_callV (me2 := mt_K_isInside) (b := kx) (as := [.int v1]) (st := []) (rv := (some (.int 1))) (M2 := (I, L, ab_RR, n, nc, ns)) d_K_isOutside_16 ce_K_isInside v_944 v_946 v_30 (by decide) rfl (Nat.le_of_ble_eq_true rfl) (cx_K_isInside_1 v1 hT e3) (Nat.le_refl _) (Nat.le_refl _) hc hs (fun j h9 => by cases h9) (fun _ _ => rfl) ?_
  show ab_E w (d + 1) mt_K_isOutside 19 [.ref kx, .int v1] [.int 1] (I, L, ab_RR, n, nc, ns) _
  refine ab_if_ne (tgt := 26) d_K_isOutside_19 (by decide) (fun _ => ?_) (fun c9 => absurd c9 e4)
  refine ab_iconst (v := 0) d_K_isOutside_26 rfl ?_
  exact ab_iret (ty := .boolean) d_K_isOutside_27 rfl rfl rfl
theorem cx_Ways_at_0 {w : ab_Wd} {d n nc ns : Nat} {I : Nat → Nat → Int32} {L : Nat → Nat → Int64} (v0 : Int32) (v1 : Int32) (hT : w.1.stackTraces = false)  : ab_C w d mt_Ways_at [.int v0, .int v1] (I, L, ab_RR, n, nc, ns) (.inl (some (.int ((v0 * 10) + v1))), (I, L, ab_RR, n, nc, ns)) := by
  refine ab_C_of (by decide) rfl (Nat.le_of_ble_eq_true rfl) hT ?_
  have hc := Nat.le_refl nc
  have hs := Nat.le_refl ns
  refine ab_iload_n (i := 0) d_Ways_at_0 rfl rfl ?_
  refine ab_bipush (v := 10) d_Ways_at_1 rfl ?_
  refine ab_imul d_Ways_at_3 ?_
  refine ab_iload_n (i := 1) d_Ways_at_4 rfl rfl ?_
  refine ab_iadd d_Ways_at_5 ?_
  exact ab_iret (ty := .int) d_Ways_at_6 rfl rfl rfl
theorem cx_Ways_cablesBetween_0 {w : ab_Wd} {d n nc ns : Nat} {I : Nat → Nat → Int32} {L : Nat → Nat → Int64} (v1 : Int32) (v2 : Int32) (hT : w.1.stackTraces = false) (e1 : (vp_in ((v1 * 10) + v2) 100)) : ab_C w (d + 1) mt_Ways_cablesBetween [.ref kx_ways, .int v1, .int v2] (I, L, ab_RR, n, nc, ns) (.inl (some (.int (I kx_ways_hops ((v1 * 10) + v2).toNatClampNeg))), (I, L, ab_RR, n, nc, ns)) := by
  refine ab_C_of (by decide) rfl (Nat.le_of_ble_eq_true rfl) hT ?_
  have hc := Nat.le_refl nc
  have hs := Nat.le_refl ns
  refine ab_aload_n (i := 0) d_Ways_cablesBetween_0 rfl rfl ?_
  refine ab_getR (ci := 9) (k := 2) (j := kx_ways_hops) d_Ways_cablesBetween_1 v_363 rfl (by decide) (by decide) rfl r_kx_ways_2 ?_
  refine ab_iload_n (i := 1) d_Ways_cablesBetween_4 rfl rfl ?_
  refine ab_iload_n (i := 2) d_Ways_cablesBetween_5 rfl rfl ?_
  refine ab_callS (me2 := mt_Ways_at) (as := [.int v1, .int v2]) (st := [.ref kx_ways_hops]) (rv := (some (.int ((v1 * 10) + v2)))) (M2 := (I, L, ab_RR, n, nc, ns)) d_Ways_cablesBetween_6 ce_Ways_at ⟨v_458, Or.inl v_457⟩ (Nat.le_of_ble_eq_true rfl) (cx_Ways_at_0 v1 v2 hT) (Nat.le_refl _) (Nat.le_refl _) hc hs (fun j h9 => by cases h9) (fun _ _ => rfl) ?_
  show ab_E w (d + 1) mt_Ways_cablesBetween 9 [.ref kx_ways, .int v1, .int v2] [.int ((v1 * 10) + v2), .ref kx_ways_hops] (I, L, ab_RR, n, nc, ns) _
  refine ab_iald d_Ways_cablesBetween_9 rfl rfl e1 ?_
  exact ab_iret (ty := .int) d_Ways_cablesBetween_10 rfl rfl rfl
theorem cx_K_ringSize_0 {w : ab_Wd} {d n nc ns : Nat} {I : Nat → Nat → Int32} {L : Nat → Nat → Int64} (v1 : Int32) (hT : w.1.stackTraces = false) (e1 : ¬ (((I kx_now_cables 2) >>> (v1 &&& 31)) &&& 1) = 1) (e2 : (0 : Int32) = 0) (e3 : (0 : Int32) = 0) : ab_C w (d + 2) mt_K_ringSize [.ref kx, .int v1] (I, L, ab_RR, n, nc, ns) (.inl (some (.int 0)), (I, L, ab_RR, n, nc, ns)) := by
  refine ab_C_of (by decide) rfl (Nat.le_of_ble_eq_true rfl) hT ?_
  have hc := Nat.le_refl nc
  have hs := Nat.le_refl ns
  refine ab_aload_n (i := 0) d_K_ringSize_0 rfl rfl ?_
  refine ab_iload_n (i := 1) d_K_ringSize_1 rfl rfl ?_
  refine ab_callV (me2 := mt_K_isOutside) (b := kx) (as := [.int v1]) (st := []) (rv := (some (.int 0))) (M2 := (I, L, ab_RR, n, nc, ns)) d_K_ringSize_2 ce_K_isOutside v_940 v_942 v_29 (by decide) rfl (Nat.le_of_ble_eq_true rfl) (cx_K_isOutside_0 v1 hT e1 e2) (Nat.le_refl _) (Nat.le_refl _) hc hs (fun j h9 => by cases h9) (fun _ _ => rfl) ?_
  show ab_E w (d + 2) mt_K_ringSize 5 [.ref kx, .int v1] [.int 0] (I, L, ab_RR, n, nc, ns) _
  refine ab_if_ne (tgt := 10) d_K_ringSize_5 (by decide) (fun c9 => absurd e3 c9) (fun _ => ?_)
  refine ab_iconst (v := 0) d_K_ringSize_8 rfl ?_
  exact ab_iret (ty := .int) d_K_ringSize_9 rfl rfl rfl
theorem cx_K_ringSize_1 {w : ab_Wd} {d n nc ns : Nat} {I : Nat → Nat → Int32} {L : Nat → Nat → Int64} (v1 : Int32) (hT : w.1.stackTraces = false) (e1 : (((I kx_now_cables 2) >>> (v1 &&& 31)) &&& 1) = 1) (e2 : ¬ (1 : Int32) = 0) (e3 : ¬ (((I kx_forest 2) >>> (v1 &&& 31)) &&& 1) = 1) (e4 : (0 : Int32) = 0) (e5 : ¬ (1 : Int32) = 0) (e6 : (vp_in v1 24)) (e7 : (vp_in v1 24)) (e8 : (vp_in (((I kx_now_cables_first v1.toNatClampNeg) * 10) + (I kx_now_cables_second v1.toNatClampNeg)) 100)) : ab_C w (d + 2) mt_K_ringSize [.ref kx, .int v1] (I, L, ab_RR, n, nc, ns) (.inl (some (.int (I kx_ways_hops (((I kx_now_cables_first v1.toNatClampNeg) * 10) + (I kx_now_cables_second v1.toNatClampNeg)).toNatClampNeg))), (I, L, ab_RR, n, nc, ns)) := by
  refine ab_C_of (by decide) rfl (Nat.le_of_ble_eq_true rfl) hT ?_
  have hc := Nat.le_refl nc
  have hs := Nat.le_refl ns
  refine ab_aload_n (i := 0) d_K_ringSize_0 rfl rfl ?_
  refine ab_iload_n (i := 1) d_K_ringSize_1 rfl rfl ?_
  refine ab_callV (me2 := mt_K_isOutside) (b := kx) (as := [.int v1]) (st := []) (rv := (some (.int 1))) (M2 := (I, L, ab_RR, n, nc, ns)) d_K_ringSize_2 ce_K_isOutside v_940 v_942 v_29 (by decide) rfl (Nat.le_of_ble_eq_true rfl) (cx_K_isOutside_1 v1 hT e1 e2 e3 e4) (Nat.le_refl _) (Nat.le_refl _) hc hs (fun j h9 => by cases h9) (fun _ _ => rfl) ?_
  show ab_E w (d + 2) mt_K_ringSize 5 [.ref kx, .int v1] [.int 1] (I, L, ab_RR, n, nc, ns) _
  refine ab_if_ne (tgt := 10) d_K_ringSize_5 (by decide) (fun _ => ?_) (fun c9 => absurd c9 e5)
  refine ab_aload_n (i := 0) d_K_ringSize_10 rfl rfl ?_
  refine ab_getR (ci := 10) (k := 7) (j := kx_ways) d_K_ringSize_11 v_479 rfl (by decide) (by decide) rfl r_kx_7 ?_
  refine ab_aload_n (i := 0) d_K_ringSize_14 rfl rfl ?_
  refine ab_getR (ci := 10) (k := 3) (j := kx_now) d_K_ringSize_15 v_475 rfl (by decide) (by decide) rfl r_kx_3 ?_
  refine ab_getR (ci := 6) (k := 0) (j := kx_now_cables) d_K_ringSize_18 v_294 rfl (by decide) (by decide) rfl r_kx_now_0 ?_
  refine ab_getR (ci := 1) (k := 3) (j := kx_now_cables_first) d_K_ringSize_21 v_209 rfl (by decide) (by decide) rfl r_kx_now_cables_3 ?_
  refine ab_iload_n (i := 1) d_K_ringSize_24 rfl rfl ?_
  refine ab_iald d_K_ringSize_25 rfl rfl e6 ?_
  refine ab_aload_n (i := 0) d_K_ringSize_26 rfl rfl ?_
  refine ab_getR (ci := 10) (k := 3) (j := kx_now) d_K_ringSize_27 v_475 rfl (by decide) (by decide) rfl r_kx_3 ?_
  refine ab_getR (ci := 6) (k := 0) (j := kx_now_cables) d_K_ringSize_30 v_294 rfl (by decide) (by decide) rfl r_kx_now_0 ?_
  refine ab_getR (ci := 1) (k := 4) (j := kx_now_cables_second) d_K_ringSize_33 v_216 rfl (by decide) (by decide) rfl r_kx_now_cables_4 ?_
  refine ab_iload_n (i := 1) d_K_ringSize_36 rfl rfl ?_
  refine ab_iald d_K_ringSize_37 rfl rfl e7 ?_
  refine ab_callV (me2 := mt_Ways_cablesBetween) (b := kx_ways) (as := [.int (I kx_now_cables_first v1.toNatClampNeg), .int (I kx_now_cables_second v1.toNatClampNeg)]) (st := []) (rv := (some (.int (I kx_ways_hops (((I kx_now_cables_first v1.toNatClampNeg) * 10) + (I kx_now_cables_second v1.toNatClampNeg)).toNatClampNeg)))) (M2 := (I, L, ab_RR, n, nc, ns)) d_K_ringSize_38 ce_Ways_cablesBetween v_1079 v_1080 v_1081 (by decide) rfl (Nat.le_of_ble_eq_true rfl) (cx_Ways_cablesBetween_0 (I kx_now_cables_first v1.toNatClampNeg) (I kx_now_cables_second v1.toNatClampNeg) hT e8) (Nat.le_refl _) (Nat.le_refl _) hc hs (fun j h9 => by cases h9) (fun _ _ => rfl) ?_
  show ab_E w (d + 2) mt_K_ringSize 41 [.ref kx, .int v1] [.int (I kx_ways_hops (((I kx_now_cables_first v1.toNatClampNeg) * 10) + (I kx_now_cables_second v1.toNatClampNeg)).toNatClampNeg)] (I, L, ab_RR, n, nc, ns) _
  exact ab_iret (ty := .int) d_K_ringSize_41 rfl rfl rfl
theorem cx_K_ringSize_2 {w : ab_Wd} {d n nc ns : Nat} {I : Nat → Nat → Int32} {L : Nat → Nat → Int64} (v1 : Int32) (hT : w.1.stackTraces = false) (e1 : (((I kx_now_cables 2) >>> (v1 &&& 31)) &&& 1) = 1) (e2 : ¬ (1 : Int32) = 0) (e3 : (((I kx_forest 2) >>> (v1 &&& 31)) &&& 1) = 1) (e4 : ¬ (1 : Int32) = 0) (e5 : (0 : Int32) = 0) : ab_C w (d + 2) mt_K_ringSize [.ref kx, .int v1] (I, L, ab_RR, n, nc, ns) (.inl (some (.int 0)), (I, L, ab_RR, n, nc, ns)) := by
  refine ab_C_of (by decide) rfl (Nat.le_of_ble_eq_true rfl) hT ?_
  have hc := Nat.le_refl nc
  have hs := Nat.le_refl ns
  refine ab_aload_n (i := 0) d_K_ringSize_0 rfl rfl ?_
  refine ab_iload_n (i := 1) d_K_ringSize_1 rfl rfl ?_
  refine ab_callV (me2 := mt_K_isOutside) (b := kx) (as := [.int v1]) (st := []) (rv := (some (.int 0))) (M2 := (I, L, ab_RR, n, nc, ns)) d_K_ringSize_2 ce_K_isOutside v_940 v_942 v_29 (by decide) rfl (Nat.le_of_ble_eq_true rfl) (cx_K_isOutside_2 v1 hT e1 e2 e3 e4) (Nat.le_refl _) (Nat.le_refl _) hc hs (fun j h9 => by cases h9) (fun _ _ => rfl) ?_
  show ab_E w (d + 2) mt_K_ringSize 5 [.ref kx, .int v1] [.int 0] (I, L, ab_RR, n, nc, ns) _
  refine ab_if_ne (tgt := 10) d_K_ringSize_5 (by decide) (fun c9 => absurd e5 c9) (fun _ => ?_)
  refine ab_iconst (v := 0) d_K_ringSize_8 rfl ?_
  exact ab_iret (ty := .int) d_K_ringSize_9 rfl rfl rfl
theorem cx_Ways_dearestCable_0 {w : ab_Wd} {d n nc ns : Nat} {I : Nat → Nat → Int32} {L : Nat → Nat → Int64} (v1 : Int32) (v2 : Int32) (hT : w.1.stackTraces = false) (e1 : (vp_in ((v1 * 10) + v2) 100)) : ab_C w (d + 1) mt_Ways_dearestCable [.ref kx_ways, .int v1, .int v2] (I, L, ab_RR, n, nc, ns) (.inl (some (.int (I kx_ways_dearest ((v1 * 10) + v2).toNatClampNeg))), (I, L, ab_RR, n, nc, ns)) := by
  refine ab_C_of (by decide) rfl (Nat.le_of_ble_eq_true rfl) hT ?_
  have hc := Nat.le_refl nc
  have hs := Nat.le_refl ns
  refine ab_aload_n (i := 0) d_Ways_dearestCable_0 rfl rfl ?_
  refine ab_getR (ci := 9) (k := 4) (j := kx_ways_dearest) d_Ways_dearestCable_1 v_365 rfl (by decide) (by decide) rfl r_kx_ways_4 ?_
  refine ab_iload_n (i := 1) d_Ways_dearestCable_4 rfl rfl ?_
  refine ab_iload_n (i := 2) d_Ways_dearestCable_5 rfl rfl ?_
  refine ab_callS (me2 := mt_Ways_at) (as := [.int v1, .int v2]) (st := [.ref kx_ways_dearest]) (rv := (some (.int ((v1 * 10) + v2)))) (M2 := (I, L, ab_RR, n, nc, ns)) d_Ways_dearestCable_6 ce_Ways_at ⟨v_458, Or.inl v_457⟩ (Nat.le_of_ble_eq_true rfl) (cx_Ways_at_0 v1 v2 hT) (Nat.le_refl _) (Nat.le_refl _) hc hs (fun j h9 => by cases h9) (fun _ _ => rfl) ?_
  show ab_E w (d + 1) mt_Ways_dearestCable 9 [.ref kx_ways, .int v1, .int v2] [.int ((v1 * 10) + v2), .ref kx_ways_dearest] (I, L, ab_RR, n, nc, ns) _
  refine ab_iald d_Ways_dearestCable_9 rfl rfl e1 ?_
  exact ab_iret (ty := .int) d_Ways_dearestCable_10 rfl rfl rfl
theorem cx_K_dearestOf_0 {w : ab_Wd} {d n nc ns : Nat} {I : Nat → Nat → Int32} {L : Nat → Nat → Int64} (v1 : Int32) (hT : w.1.stackTraces = false) (e1 : ¬ (((I kx_now_cables 2) >>> (v1 &&& 31)) &&& 1) = 1) (e2 : (0 : Int32) = 0) (e3 : (0 : Int32) = 0) : ab_C w (d + 2) mt_K_dearestOf [.ref kx, .int v1] (I, L, ab_RR, n, nc, ns) (.inl (some (.int (-1))), (I, L, ab_RR, n, nc, ns)) := by
  refine ab_C_of (by decide) rfl (Nat.le_of_ble_eq_true rfl) hT ?_
  have hc := Nat.le_refl nc
  have hs := Nat.le_refl ns
  refine ab_aload_n (i := 0) d_K_dearestOf_0 rfl rfl ?_
  refine ab_iload_n (i := 1) d_K_dearestOf_1 rfl rfl ?_
  refine ab_callV (me2 := mt_K_isOutside) (b := kx) (as := [.int v1]) (st := []) (rv := (some (.int 0))) (M2 := (I, L, ab_RR, n, nc, ns)) d_K_dearestOf_2 ce_K_isOutside v_940 v_942 v_29 (by decide) rfl (Nat.le_of_ble_eq_true rfl) (cx_K_isOutside_0 v1 hT e1 e2) (Nat.le_refl _) (Nat.le_refl _) hc hs (fun j h9 => by cases h9) (fun _ _ => rfl) ?_
  show ab_E w (d + 2) mt_K_dearestOf 5 [.ref kx, .int v1] [.int 0] (I, L, ab_RR, n, nc, ns) _
  refine ab_if_ne (tgt := 10) d_K_dearestOf_5 (by decide) (fun c9 => absurd e3 c9) (fun _ => ?_)
  refine ab_iconst (v := (-1)) d_K_dearestOf_8 rfl ?_
  exact ab_iret (ty := .int) d_K_dearestOf_9 rfl rfl rfl
theorem cx_K_dearestOf_1 {w : ab_Wd} {d n nc ns : Nat} {I : Nat → Nat → Int32} {L : Nat → Nat → Int64} (v1 : Int32) (hT : w.1.stackTraces = false) (e1 : (((I kx_now_cables 2) >>> (v1 &&& 31)) &&& 1) = 1) (e2 : ¬ (1 : Int32) = 0) (e3 : ¬ (((I kx_forest 2) >>> (v1 &&& 31)) &&& 1) = 1) (e4 : (0 : Int32) = 0) (e5 : ¬ (1 : Int32) = 0) (e6 : (vp_in v1 24)) (e7 : (vp_in v1 24)) (e8 : (vp_in (((I kx_now_cables_first v1.toNatClampNeg) * 10) + (I kx_now_cables_second v1.toNatClampNeg)) 100)) : ab_C w (d + 2) mt_K_dearestOf [.ref kx, .int v1] (I, L, ab_RR, n, nc, ns) (.inl (some (.int (I kx_ways_dearest (((I kx_now_cables_first v1.toNatClampNeg) * 10) + (I kx_now_cables_second v1.toNatClampNeg)).toNatClampNeg))), (I, L, ab_RR, n, nc, ns)) := by
  refine ab_C_of (by decide) rfl (Nat.le_of_ble_eq_true rfl) hT ?_
  have hc := Nat.le_refl nc
  have hs := Nat.le_refl ns
  refine ab_aload_n (i := 0) d_K_dearestOf_0 rfl rfl ?_
  refine ab_iload_n (i := 1) d_K_dearestOf_1 rfl rfl ?_
  refine ab_callV (me2 := mt_K_isOutside) (b := kx) (as := [.int v1]) (st := []) (rv := (some (.int 1))) (M2 := (I, L, ab_RR, n, nc, ns)) d_K_dearestOf_2 ce_K_isOutside v_940 v_942 v_29 (by decide) rfl (Nat.le_of_ble_eq_true rfl) (cx_K_isOutside_1 v1 hT e1 e2 e3 e4) (Nat.le_refl _) (Nat.le_refl _) hc hs (fun j h9 => by cases h9) (fun _ _ => rfl) ?_
  show ab_E w (d + 2) mt_K_dearestOf 5 [.ref kx, .int v1] [.int 1] (I, L, ab_RR, n, nc, ns) _
  refine ab_if_ne (tgt := 10) d_K_dearestOf_5 (by decide) (fun _ => ?_) (fun c9 => absurd c9 e5)
  refine ab_aload_n (i := 0) d_K_dearestOf_10 rfl rfl ?_
  refine ab_getR (ci := 10) (k := 7) (j := kx_ways) d_K_dearestOf_11 v_479 rfl (by decide) (by decide) rfl r_kx_7 ?_
  refine ab_aload_n (i := 0) d_K_dearestOf_14 rfl rfl ?_
  refine ab_getR (ci := 10) (k := 3) (j := kx_now) d_K_dearestOf_15 v_475 rfl (by decide) (by decide) rfl r_kx_3 ?_
  refine ab_getR (ci := 6) (k := 0) (j := kx_now_cables) d_K_dearestOf_18 v_294 rfl (by decide) (by decide) rfl r_kx_now_0 ?_
  refine ab_getR (ci := 1) (k := 3) (j := kx_now_cables_first) d_K_dearestOf_21 v_209 rfl (by decide) (by decide) rfl r_kx_now_cables_3 ?_
  refine ab_iload_n (i := 1) d_K_dearestOf_24 rfl rfl ?_
  refine ab_iald d_K_dearestOf_25 rfl rfl e6 ?_
  refine ab_aload_n (i := 0) d_K_dearestOf_26 rfl rfl ?_
  refine ab_getR (ci := 10) (k := 3) (j := kx_now) d_K_dearestOf_27 v_475 rfl (by decide) (by decide) rfl r_kx_3 ?_
  refine ab_getR (ci := 6) (k := 0) (j := kx_now_cables) d_K_dearestOf_30 v_294 rfl (by decide) (by decide) rfl r_kx_now_0 ?_
  refine ab_getR (ci := 1) (k := 4) (j := kx_now_cables_second) d_K_dearestOf_33 v_216 rfl (by decide) (by decide) rfl r_kx_now_cables_4 ?_
  refine ab_iload_n (i := 1) d_K_dearestOf_36 rfl rfl ?_
  refine ab_iald d_K_dearestOf_37 rfl rfl e7 ?_
  refine ab_callV (me2 := mt_Ways_dearestCable) (b := kx_ways) (as := [.int (I kx_now_cables_first v1.toNatClampNeg), .int (I kx_now_cables_second v1.toNatClampNeg)]) (st := []) (rv := (some (.int (I kx_ways_dearest (((I kx_now_cables_first v1.toNatClampNeg) * 10) + (I kx_now_cables_second v1.toNatClampNeg)).toNatClampNeg)))) (M2 := (I, L, ab_RR, n, nc, ns)) d_K_dearestOf_38 ce_Ways_dearestCable v_948 v_949 v_950 (by decide) rfl (Nat.le_of_ble_eq_true rfl) (cx_Ways_dearestCable_0 (I kx_now_cables_first v1.toNatClampNeg) (I kx_now_cables_second v1.toNatClampNeg) hT e8) (Nat.le_refl _) (Nat.le_refl _) hc hs (fun j h9 => by cases h9) (fun _ _ => rfl) ?_
  show ab_E w (d + 2) mt_K_dearestOf 41 [.ref kx, .int v1] [.int (I kx_ways_dearest (((I kx_now_cables_first v1.toNatClampNeg) * 10) + (I kx_now_cables_second v1.toNatClampNeg)).toNatClampNeg)] (I, L, ab_RR, n, nc, ns) _
  exact ab_iret (ty := .int) d_K_dearestOf_41 rfl rfl rfl
theorem cx_K_dearestOf_2 {w : ab_Wd} {d n nc ns : Nat} {I : Nat → Nat → Int32} {L : Nat → Nat → Int64} (v1 : Int32) (hT : w.1.stackTraces = false) (e1 : (((I kx_now_cables 2) >>> (v1 &&& 31)) &&& 1) = 1) (e2 : ¬ (1 : Int32) = 0) (e3 : (((I kx_forest 2) >>> (v1 &&& 31)) &&& 1) = 1) (e4 : ¬ (1 : Int32) = 0) (e5 : (0 : Int32) = 0) : ab_C w (d + 2) mt_K_dearestOf [.ref kx, .int v1] (I, L, ab_RR, n, nc, ns) (.inl (some (.int (-1))), (I, L, ab_RR, n, nc, ns)) := by
  refine ab_C_of (by decide) rfl (Nat.le_of_ble_eq_true rfl) hT ?_
  have hc := Nat.le_refl nc
  have hs := Nat.le_refl ns
  refine ab_aload_n (i := 0) d_K_dearestOf_0 rfl rfl ?_
  refine ab_iload_n (i := 1) d_K_dearestOf_1 rfl rfl ?_
  refine ab_callV (me2 := mt_K_isOutside) (b := kx) (as := [.int v1]) (st := []) (rv := (some (.int 0))) (M2 := (I, L, ab_RR, n, nc, ns)) d_K_dearestOf_2 ce_K_isOutside v_940 v_942 v_29 (by decide) rfl (Nat.le_of_ble_eq_true rfl) (cx_K_isOutside_2 v1 hT e1 e2 e3 e4) (Nat.le_refl _) (Nat.le_refl _) hc hs (fun j h9 => by cases h9) (fun _ _ => rfl) ?_
  show ab_E w (d + 2) mt_K_dearestOf 5 [.ref kx, .int v1] [.int 0] (I, L, ab_RR, n, nc, ns) _
  refine ab_if_ne (tgt := 10) d_K_dearestOf_5 (by decide) (fun c9 => absurd e5 c9) (fun _ => ?_)
  refine ab_iconst (v := (-1)) d_K_dearestOf_8 rfl ?_
  exact ab_iret (ty := .int) d_K_dearestOf_9 rfl rfl rfl
theorem r_K_cable_0 {w : ab_Wd} {d n nc ns : Nat} {I : Nat → Nat → Int32} {L : Nat → Nat → Int64} {res : ab_Re} (hT : w.1.stackTraces = false) (v1 : Int32) (v2 : Int32) (h8 : 8 ≤ (d + 3)) (hc : nc ≤ res.2.2.2.2.2.1) (hs : ns ≤ res.2.2.2.2.2.2)
    (h : ((ab_C w (d + 2) mt_K_needCable [.ref kx, .int v1] (I, L, ab_RR, n, nc, ns) (.inl none, (I, L, ab_RR, n, nc, ns)) ∧ ((v2 = 0 → ((vp_in v1 24) ∧ res = (.inl (some (.int (I kx_now_cables_first v1.toNatClampNeg))), (I, L, ab_RR, n, nc, ns)))) ∧ (v2 = 1 → ((vp_in v1 24) ∧ res = (.inl (some (.int (I kx_now_cables_second v1.toNatClampNeg))), (I, L, ab_RR, n, nc, ns)))) ∧ (v2 = 2 → ((vp_in v1 24) ∧ res = (.inl (some (.int (I kx_now_cables_price v1.toNatClampNeg))), (I, L, ab_RR, n, nc, ns)))) ∧ (v2 = 3 → ((vp_in v1 24) ∧ res = (.inl (some (.int (I kx_now_cables_firm v1.toNatClampNeg))), (I, L, ab_RR, n, nc, ns)))) ∧ (v2 = 4 → (((((I kx_now_cables 2) >>> (v1 &&& 31)) &&& 1) = 1 → (res = (.inl (some (.int 1)), (I, L, ab_RR, n, nc, ns)))) ∧ (¬ (((I kx_now_cables 2) >>> (v1 &&& 31)) &&& 1) = 1 → (res = (.inl (some (.int 0)), (I, L, ab_RR, n, nc, ns)))))) ∧ (v2 = 5 → (((((I kx_forest 2) >>> (v1 &&& 31)) &&& 1) = 1 → (res = (.inl (some (.int 1)), (I, L, ab_RR, n, nc, ns)))) ∧ (¬ (((I kx_forest 2) >>> (v1 &&& 31)) &&& 1) = 1 → (res = (.inl (some (.int 0)), (I, L, ab_RR, n, nc, ns)))))) ∧ (v2 = 6 → (((((I kx_now_cables 2) >>> (v1 &&& 31)) &&& 1) = 1 → (((((I kx_forest 2) >>> (v1 &&& 31)) &&& 1) = 1 → (res = (.inl (some (.int 0)), (I, L, ab_RR, n, nc, ns)))) ∧ (¬ (((I kx_forest 2) >>> (v1 &&& 31)) &&& 1) = 1 → ((vp_in v1 24) ∧ (vp_in (((I kx_now_cables_first v1.toNatClampNeg) * 10) + (I kx_now_cables_second v1.toNatClampNeg)) 100) ∧ res = (.inl (some (.int (I kx_ways_hops (((I kx_now_cables_first v1.toNatClampNeg) * 10) + (I kx_now_cables_second v1.toNatClampNeg)).toNatClampNeg))), (I, L, ab_RR, n, nc, ns)))))) ∧ (¬ (((I kx_now_cables 2) >>> (v1 &&& 31)) &&& 1) = 1 → (res = (.inl (some (.int 0)), (I, L, ab_RR, n, nc, ns)))))) ∧ (v2 = 7 → (((((I kx_now_cables 2) >>> (v1 &&& 31)) &&& 1) = 1 → (((((I kx_forest 2) >>> (v1 &&& 31)) &&& 1) = 1 → (res = (.inl (some (.int (-1))), (I, L, ab_RR, n, nc, ns)))) ∧ (¬ (((I kx_forest 2) >>> (v1 &&& 31)) &&& 1) = 1 → ((vp_in v1 24) ∧ (vp_in (((I kx_now_cables_first v1.toNatClampNeg) * 10) + (I kx_now_cables_second v1.toNatClampNeg)) 100) ∧ res = (.inl (some (.int (I kx_ways_dearest (((I kx_now_cables_first v1.toNatClampNeg) * 10) + (I kx_now_cables_second v1.toNatClampNeg)).toNatClampNeg))), (I, L, ab_RR, n, nc, ns)))))) ∧ (¬ (((I kx_now_cables 2) >>> (v1 &&& 31)) &&& 1) = 1 → (res = (.inl (some (.int (-1))), (I, L, ab_RR, n, nc, ns)))))) ∧ (v2 = 8 → (∃ (r20 : Int32), ab_C w (d + 2) mt_K_cutOf [.ref kx, .int v1] (I, L, ab_RR, n, nc, ns) (.inl (some (.int r20)), (I, L, ab_RR, n, nc, ns)) ∧ res = (.inl (some (.int r20)), (I, L, ab_RR, n, nc, ns)))) ∧ (v2 = 9 → (∃ (r21 : Int32), ab_C w (d + 2) mt_K_rivalOf [.ref kx, .int v1] (I, L, ab_RR, n, nc, ns) (.inl (some (.int r21)), (I, L, ab_RR, n, nc, ns)) ∧ res = (.inl (some (.int r21)), (I, L, ab_RR, n, nc, ns)))) ∧ (v2 = 10 → (∃ (r22 : Int32), ab_C w (d + 2) mt_K_barOf [.ref kx, .int v1] (I, L, ab_RR, n, nc, ns) (.inl (some (.int r22)), (I, L, ab_RR, n, nc, ns)) ∧ res = (.inl (some (.int r22)), (I, L, ab_RR, n, nc, ns)))) ∧ (v2 = 11 → (∃ (r23 : Int32), ab_C w (d + 2) mt_K_lossOf [.ref kx, .int v1] (I, L, ab_RR, n, nc, ns) (.inl (some (.int r23)), (I, L, ab_RR, n, nc, ns)) ∧ res = (.inl (some (.int r23)), (I, L, ab_RR, n, nc, ns)))) ∧ ((v2.toInt < 0 ∨ 11 < v2.toInt) → (res = (.inr "java/util/NoSuchElementException", (I, L, ab_RR, n, nc + 1, ns + 6)))))) ∨ (∃ E : String, ab_C w (d + 2) mt_K_needCable [.ref kx, .int v1] (I, L, ab_RR, n, nc, ns) (.inr E, (I, L, ab_RR, n, nc + 1, ns + 6)) ∧ res = (.inr E, (I, L, ab_RR, n, nc + 1, ns + 6))))) : ab_E w (d + 3) mt_K_cable 0 [.ref kx, .int v1, .int v2, .null] [] (I, L, ab_RR, n, nc, ns) res := by
  refine ab_aload_n (i := 0) d_K_cable_0 rfl rfl ?_
  refine ab_iload_n (i := 1) d_K_cable_1 rfl rfl ?_
  rcases h with ⟨hC, h⟩ | ⟨E9, hC, h⟩
  · refine ab_callV (me2 := mt_K_needCable) (b := kx) (as := [.int v1]) (st := []) (rv := none) (M2 := (I, L, ab_RR, n, nc, ns)) d_K_cable_2 ce_K_needCable v_1071 v_1073 v_43 (by decide) rfl (Nat.le_of_ble_eq_true rfl) hC (Nat.le_refl _) (Nat.le_refl _) hc hs (fun j h9 => by cases h9) (fun _ _ => rfl) ?_
    show ab_E w (d + 3) mt_K_cable 5 [.ref kx, .int v1, .int v2, .null] [] (I, L, ab_RR, n, nc, ns) res
    refine ab_aload_n (i := 0) d_K_cable_5 rfl rfl ?_
    refine ab_getR (ci := 10) (k := 3) (j := kx_now) d_K_cable_6 v_475 rfl (by decide) (by decide) rfl r_kx_3 ?_
    refine ab_getR (ci := 6) (k := 0) (j := kx_now_cables) d_K_cable_9 v_294 rfl (by decide) (by decide) rfl r_kx_now_0 ?_
    refine ab_astore_n (i := 3) d_K_cable_12 rfl (by decide) (Or.inr rfl) ?_
    refine ab_iload_n (i := 2) d_K_cable_13 rfl rfl ?_
    by_cases c24 : v2 = 0
    · have h := h.1 c24
      refine ab_tabIn (tgt := 76) d_K_cable_14 (by rw [c24]; decide) (by rw [c24]; decide) (by rw [ab_tab_in (j := 0) c24 (by decide)]; rfl) (by decide) ?_
      refine ab_aload_n (i := 3) d_K_cable_76 rfl rfl ?_
      refine ab_getR (ci := 1) (k := 3) (j := kx_now_cables_first) d_K_cable_77 v_209 rfl (by decide) (by decide) rfl r_kx_now_cables_3 ?_
      refine ab_iload_n (i := 1) d_K_cable_80 rfl rfl ?_
      have g2 := h.1; have h := h.2
      refine ab_iald d_K_cable_81 rfl rfl g2 ?_
      exact ab_iret (ty := .int) d_K_cable_82 rfl rfl h
    by_cases c25 : v2 = 1
    · have h := h.2.1 c25
      refine ab_tabIn (tgt := 83) d_K_cable_14 (by rw [c25]; decide) (by rw [c25]; decide) (by rw [ab_tab_in (j := 1) c25 (by decide)]; rfl) (by decide) ?_
      refine ab_aload_n (i := 3) d_K_cable_83 rfl rfl ?_
      refine ab_getR (ci := 1) (k := 4) (j := kx_now_cables_second) d_K_cable_84 v_216 rfl (by decide) (by decide) rfl r_kx_now_cables_4 ?_
      refine ab_iload_n (i := 1) d_K_cable_87 rfl rfl ?_
      have g3 := h.1; have h := h.2
      refine ab_iald d_K_cable_88 rfl rfl g3 ?_
      exact ab_iret (ty := .int) d_K_cable_89 rfl rfl h
    by_cases c26 : v2 = 2
    · have h := h.2.2.1 c26
      refine ab_tabIn (tgt := 90) d_K_cable_14 (by rw [c26]; decide) (by rw [c26]; decide) (by rw [ab_tab_in (j := 2) c26 (by decide)]; rfl) (by decide) ?_
      refine ab_aload_n (i := 3) d_K_cable_90 rfl rfl ?_
      refine ab_getR (ci := 1) (k := 5) (j := kx_now_cables_price) d_K_cable_91 v_224 rfl (by decide) (by decide) rfl r_kx_now_cables_5 ?_
      refine ab_iload_n (i := 1) d_K_cable_94 rfl rfl ?_
      have g4 := h.1; have h := h.2
      refine ab_iald d_K_cable_95 rfl rfl g4 ?_
      exact ab_iret (ty := .int) d_K_cable_96 rfl rfl h
    by_cases c27 : v2 = 3
    · have h := h.2.2.2.1 c27
      refine ab_tabIn (tgt := 97) d_K_cable_14 (by rw [c27]; decide) (by rw [c27]; decide) (by rw [ab_tab_in (j := 3) c27 (by decide)]; rfl) (by decide) ?_
      refine ab_aload_n (i := 3) d_K_cable_97 rfl rfl ?_
      refine ab_getR (ci := 1) (k := 6) (j := kx_now_cables_firm) d_K_cable_98 v_228 rfl (by decide) (by decide) rfl r_kx_now_cables_6 ?_
      refine ab_iload_n (i := 1) d_K_cable_101 rfl rfl ?_
      have g5 := h.1; have h := h.2
      refine ab_iald d_K_cable_102 rfl rfl g5 ?_
      exact ab_iret (ty := .int) d_K_cable_103 rfl rfl h
    by_cases c28 : v2 = 4
    · have h := h.2.2.2.2.1 c28
      refine ab_tabIn (tgt := 104) d_K_cable_14 (by rw [c28]; decide) (by rw [c28]; decide) (by rw [ab_tab_in (j := 4) c28 (by decide)]; rfl) (by decide) ?_
      refine ab_aload_n (i := 3) d_K_cable_104 rfl rfl ?_
      refine ab_iload_n (i := 1) d_K_cable_105 rfl rfl ?_
      by_cases c7 : (((I kx_now_cables 2) >>> (v1 &&& 31)) &&& 1) = 1
      · have h := h.1 c7
        refine ab_callV (me2 := mt_Cables_isSound) (b := kx_now_cables) (as := [.int v1]) (st := []) (rv := (some (.int 1))) (M2 := (I, L, ab_RR, n, nc, ns)) d_K_cable_106 ce_Cables_isSound v_624 v_540 v_541 (by decide) rfl (Nat.le_of_ble_eq_true rfl) (cx_Cables_isSound_0_1 v1 hT c7) (Nat.le_refl _) (Nat.le_refl _) hc hs (fun j h9 => by cases h9) (fun _ _ => rfl) ?_
        show ab_E w (d + 3) mt_K_cable 109 [.ref kx, .int v1, .int v2, .ref kx_now_cables] [.int 1] (I, L, ab_RR, n, nc, ns) res
        refine ab_if_eq (tgt := 116) d_K_cable_109 (by decide) (fun c9 => absurd c9 (show ¬ (1 : Int32) = 0 from by decide)) (fun _ => ?_)
        refine ab_iconst (v := 1) d_K_cable_112 rfl ?_
        refine ab_goto (tgt := 117) d_K_cable_113 (by decide) ?_
        exact ab_iret (ty := .int) d_K_cable_117 rfl rfl h
      · have h := h.2 c7
        refine ab_callV (me2 := mt_Cables_isSound) (b := kx_now_cables) (as := [.int v1]) (st := []) (rv := (some (.int 0))) (M2 := (I, L, ab_RR, n, nc, ns)) d_K_cable_106 ce_Cables_isSound v_624 v_540 v_541 (by decide) rfl (Nat.le_of_ble_eq_true rfl) (cx_Cables_isSound_0_0 v1 hT c7) (Nat.le_refl _) (Nat.le_refl _) hc hs (fun j h9 => by cases h9) (fun _ _ => rfl) ?_
        show ab_E w (d + 3) mt_K_cable 109 [.ref kx, .int v1, .int v2, .ref kx_now_cables] [.int 0] (I, L, ab_RR, n, nc, ns) res
        refine ab_if_eq (tgt := 116) d_K_cable_109 (by decide) (fun _ => ?_) (fun c9 => absurd (show (0 : Int32) = 0 from by decide) c9)
        refine ab_iconst (v := 0) d_K_cable_116 rfl ?_
        exact ab_iret (ty := .int) d_K_cable_117 rfl rfl h
    by_cases c29 : v2 = 5
    · have h := h.2.2.2.2.2.1 c29
      refine ab_tabIn (tgt := 118) d_K_cable_14 (by rw [c29]; decide) (by rw [c29]; decide) (by rw [ab_tab_in (j := 5) c29 (by decide)]; rfl) (by decide) ?_
      refine ab_aload_n (i := 0) d_K_cable_118 rfl rfl ?_
      refine ab_iload_n (i := 1) d_K_cable_119 rfl rfl ?_
      by_cases c9 : (((I kx_forest 2) >>> (v1 &&& 31)) &&& 1) = 1
      · have h := h.1 c9
        refine ab_callV (me2 := mt_K_isInside) (b := kx) (as := [.int v1]) (st := []) (rv := (some (.int 1))) (M2 := (I, L, ab_RR, n, nc, ns)) d_K_cable_120 ce_K_isInside v_944 v_946 v_30 (by decide) rfl (Nat.le_of_ble_eq_true rfl) (cx_K_isInside_1 v1 hT c9) (Nat.le_refl _) (Nat.le_refl _) hc hs (fun j h9 => by cases h9) (fun _ _ => rfl) ?_
        show ab_E w (d + 3) mt_K_cable 123 [.ref kx, .int v1, .int v2, .ref kx_now_cables] [.int 1] (I, L, ab_RR, n, nc, ns) res
        refine ab_if_eq (tgt := 130) d_K_cable_123 (by decide) (fun c9 => absurd c9 (show ¬ (1 : Int32) = 0 from by decide)) (fun _ => ?_)
        refine ab_iconst (v := 1) d_K_cable_126 rfl ?_
        refine ab_goto (tgt := 131) d_K_cable_127 (by decide) ?_
        exact ab_iret (ty := .int) d_K_cable_131 rfl rfl h
      · have h := h.2 c9
        refine ab_callV (me2 := mt_K_isInside) (b := kx) (as := [.int v1]) (st := []) (rv := (some (.int 0))) (M2 := (I, L, ab_RR, n, nc, ns)) d_K_cable_120 ce_K_isInside v_944 v_946 v_30 (by decide) rfl (Nat.le_of_ble_eq_true rfl) (cx_K_isInside_0 v1 hT c9) (Nat.le_refl _) (Nat.le_refl _) hc hs (fun j h9 => by cases h9) (fun _ _ => rfl) ?_
        show ab_E w (d + 3) mt_K_cable 123 [.ref kx, .int v1, .int v2, .ref kx_now_cables] [.int 0] (I, L, ab_RR, n, nc, ns) res
        refine ab_if_eq (tgt := 130) d_K_cable_123 (by decide) (fun _ => ?_) (fun c9 => absurd (show (0 : Int32) = 0 from by decide) c9)
        refine ab_iconst (v := 0) d_K_cable_130 rfl ?_
        exact ab_iret (ty := .int) d_K_cable_131 rfl rfl h
    by_cases c30 : v2 = 6
    · have h := h.2.2.2.2.2.2.1 c30
      refine ab_tabIn (tgt := 132) d_K_cable_14 (by rw [c30]; decide) (by rw [c30]; decide) (by rw [ab_tab_in (j := 6) c30 (by decide)]; rfl) (by decide) ?_
      refine ab_aload_n (i := 0) d_K_cable_132 rfl rfl ?_
      refine ab_iload_n (i := 1) d_K_cable_133 rfl rfl ?_
      by_cases c11 : (((I kx_now_cables 2) >>> (v1 &&& 31)) &&& 1) = 1
      · have h := h.1 c11
        by_cases c12 : (((I kx_forest 2) >>> (v1 &&& 31)) &&& 1) = 1
        · have h := h.1 c12
          refine ab_callV (me2 := mt_K_ringSize) (b := kx) (as := [.int v1]) (st := []) (rv := (some (.int 0))) (M2 := (I, L, ab_RR, n, nc, ns)) d_K_cable_134 ce_K_ringSize v_1075 v_1077 v_44 (by decide) rfl (Nat.le_of_ble_eq_true rfl) (cx_K_ringSize_2 v1 hT c11 (show ¬ (1 : Int32) = 0 from by decide) c12 (show ¬ (1 : Int32) = 0 from by decide) (show (0 : Int32) = 0 from by decide)) (Nat.le_refl _) (Nat.le_refl _) hc hs (fun j h9 => by cases h9) (fun _ _ => rfl) ?_
          show ab_E w (d + 3) mt_K_cable 137 [.ref kx, .int v1, .int v2, .ref kx_now_cables] [.int 0] (I, L, ab_RR, n, nc, ns) res
          exact ab_iret (ty := .int) d_K_cable_137 rfl rfl h
        · have h := h.2 c12
          have g13 := h.1; have h := h.2
          have g14 := h.1; have h := h.2
          refine ab_callV (me2 := mt_K_ringSize) (b := kx) (as := [.int v1]) (st := []) (rv := (some (.int (I kx_ways_hops (((I kx_now_cables_first v1.toNatClampNeg) * 10) + (I kx_now_cables_second v1.toNatClampNeg)).toNatClampNeg)))) (M2 := (I, L, ab_RR, n, nc, ns)) d_K_cable_134 ce_K_ringSize v_1075 v_1077 v_44 (by decide) rfl (Nat.le_of_ble_eq_true rfl) (cx_K_ringSize_1 v1 hT c11 (show ¬ (1 : Int32) = 0 from by decide) c12 (show (0 : Int32) = 0 from by decide) (show ¬ (1 : Int32) = 0 from by decide) g13 g13 g14) (Nat.le_refl _) (Nat.le_refl _) hc hs (fun j h9 => by cases h9) (fun _ _ => rfl) ?_
          show ab_E w (d + 3) mt_K_cable 137 [.ref kx, .int v1, .int v2, .ref kx_now_cables] [.int (I kx_ways_hops (((I kx_now_cables_first v1.toNatClampNeg) * 10) + (I kx_now_cables_second v1.toNatClampNeg)).toNatClampNeg)] (I, L, ab_RR, n, nc, ns) res
          exact ab_iret (ty := .int) d_K_cable_137 rfl rfl h
      · have h := h.2 c11
        refine ab_callV (me2 := mt_K_ringSize) (b := kx) (as := [.int v1]) (st := []) (rv := (some (.int 0))) (M2 := (I, L, ab_RR, n, nc, ns)) d_K_cable_134 ce_K_ringSize v_1075 v_1077 v_44 (by decide) rfl (Nat.le_of_ble_eq_true rfl) (cx_K_ringSize_0 v1 hT c11 (show (0 : Int32) = 0 from by decide) (show (0 : Int32) = 0 from by decide)) (Nat.le_refl _) (Nat.le_refl _) hc hs (fun j h9 => by cases h9) (fun _ _ => rfl) ?_
        show ab_E w (d + 3) mt_K_cable 137 [.ref kx, .int v1, .int v2, .ref kx_now_cables] [.int 0] (I, L, ab_RR, n, nc, ns) res
        exact ab_iret (ty := .int) d_K_cable_137 rfl rfl h
    by_cases c31 : v2 = 7
    · have h := h.2.2.2.2.2.2.2.1 c31
      refine ab_tabIn (tgt := 138) d_K_cable_14 (by rw [c31]; decide) (by rw [c31]; decide) (by rw [ab_tab_in (j := 7) c31 (by decide)]; rfl) (by decide) ?_
      refine ab_aload_n (i := 0) d_K_cable_138 rfl rfl ?_
      refine ab_iload_n (i := 1) d_K_cable_139 rfl rfl ?_
      by_cases c16 : (((I kx_now_cables 2) >>> (v1 &&& 31)) &&& 1) = 1
      · have h := h.1 c16
        by_cases c17 : (((I kx_forest 2) >>> (v1 &&& 31)) &&& 1) = 1
        · have h := h.1 c17
          refine ab_callV (me2 := mt_K_dearestOf) (b := kx) (as := [.int v1]) (st := []) (rv := (some (.int (-1)))) (M2 := (I, L, ab_RR, n, nc, ns)) d_K_cable_140 ce_K_dearestOf v_936 v_938 v_28 (by decide) rfl (Nat.le_of_ble_eq_true rfl) (cx_K_dearestOf_2 v1 hT c16 (show ¬ (1 : Int32) = 0 from by decide) c17 (show ¬ (1 : Int32) = 0 from by decide) (show (0 : Int32) = 0 from by decide)) (Nat.le_refl _) (Nat.le_refl _) hc hs (fun j h9 => by cases h9) (fun _ _ => rfl) ?_
          show ab_E w (d + 3) mt_K_cable 143 [.ref kx, .int v1, .int v2, .ref kx_now_cables] [.int (-1)] (I, L, ab_RR, n, nc, ns) res
          exact ab_iret (ty := .int) d_K_cable_143 rfl rfl h
        · have h := h.2 c17
          have g18 := h.1; have h := h.2
          have g19 := h.1; have h := h.2
          refine ab_callV (me2 := mt_K_dearestOf) (b := kx) (as := [.int v1]) (st := []) (rv := (some (.int (I kx_ways_dearest (((I kx_now_cables_first v1.toNatClampNeg) * 10) + (I kx_now_cables_second v1.toNatClampNeg)).toNatClampNeg)))) (M2 := (I, L, ab_RR, n, nc, ns)) d_K_cable_140 ce_K_dearestOf v_936 v_938 v_28 (by decide) rfl (Nat.le_of_ble_eq_true rfl) (cx_K_dearestOf_1 v1 hT c16 (show ¬ (1 : Int32) = 0 from by decide) c17 (show (0 : Int32) = 0 from by decide) (show ¬ (1 : Int32) = 0 from by decide) g18 g18 g19) (Nat.le_refl _) (Nat.le_refl _) hc hs (fun j h9 => by cases h9) (fun _ _ => rfl) ?_
          show ab_E w (d + 3) mt_K_cable 143 [.ref kx, .int v1, .int v2, .ref kx_now_cables] [.int (I kx_ways_dearest (((I kx_now_cables_first v1.toNatClampNeg) * 10) + (I kx_now_cables_second v1.toNatClampNeg)).toNatClampNeg)] (I, L, ab_RR, n, nc, ns) res
          exact ab_iret (ty := .int) d_K_cable_143 rfl rfl h
      · have h := h.2 c16
        refine ab_callV (me2 := mt_K_dearestOf) (b := kx) (as := [.int v1]) (st := []) (rv := (some (.int (-1)))) (M2 := (I, L, ab_RR, n, nc, ns)) d_K_cable_140 ce_K_dearestOf v_936 v_938 v_28 (by decide) rfl (Nat.le_of_ble_eq_true rfl) (cx_K_dearestOf_0 v1 hT c16 (show (0 : Int32) = 0 from by decide) (show (0 : Int32) = 0 from by decide)) (Nat.le_refl _) (Nat.le_refl _) hc hs (fun j h9 => by cases h9) (fun _ _ => rfl) ?_
        show ab_E w (d + 3) mt_K_cable 143 [.ref kx, .int v1, .int v2, .ref kx_now_cables] [.int (-1)] (I, L, ab_RR, n, nc, ns) res
        exact ab_iret (ty := .int) d_K_cable_143 rfl rfl h
    by_cases c32 : v2 = 8
    · have h := h.2.2.2.2.2.2.2.2.1 c32
      refine ab_tabIn (tgt := 144) d_K_cable_14 (by rw [c32]; decide) (by rw [c32]; decide) (by rw [ab_tab_in (j := 8) c32 (by decide)]; rfl) (by decide) ?_
      refine ab_aload_n (i := 0) d_K_cable_144 rfl rfl ?_
      refine ab_iload_n (i := 1) d_K_cable_145 rfl rfl ?_
      obtain ⟨r20, hC, h⟩ := h
      refine ab_callV (me2 := mt_K_cutOf) (b := kx) (as := [.int v1]) (st := []) (rv := (some (.int r20))) (M2 := (I, L, ab_RR, n, nc, ns)) d_K_cable_146 ce_K_cutOf v_996 v_998 v_37 (by decide) rfl (Nat.le_of_ble_eq_true rfl) hC (Nat.le_refl _) (Nat.le_refl _) hc hs (fun j h9 => by cases h9) (fun _ _ => rfl) ?_
      show ab_E w (d + 3) mt_K_cable 149 [.ref kx, .int v1, .int v2, .ref kx_now_cables] [.int r20] (I, L, ab_RR, n, nc, ns) res
      exact ab_iret (ty := .int) d_K_cable_149 rfl rfl h
    by_cases c33 : v2 = 9
    · have h := h.2.2.2.2.2.2.2.2.2.1 c33
      refine ab_tabIn (tgt := 150) d_K_cable_14 (by rw [c33]; decide) (by rw [c33]; decide) (by rw [ab_tab_in (j := 9) c33 (by decide)]; rfl) (by decide) ?_
      refine ab_aload_n (i := 0) d_K_cable_150 rfl rfl ?_
      refine ab_iload_n (i := 1) d_K_cable_151 rfl rfl ?_
      obtain ⟨r21, hC, h⟩ := h
      refine ab_callV (me2 := mt_K_rivalOf) (b := kx) (as := [.int v1]) (st := []) (rv := (some (.int r21))) (M2 := (I, L, ab_RR, n, nc, ns)) d_K_cable_152 ce_K_rivalOf v_1083 v_1085 v_45 (by decide) rfl (Nat.le_of_ble_eq_true rfl) hC (Nat.le_refl _) (Nat.le_refl _) hc hs (fun j h9 => by cases h9) (fun _ _ => rfl) ?_
      show ab_E w (d + 3) mt_K_cable 155 [.ref kx, .int v1, .int v2, .ref kx_now_cables] [.int r21] (I, L, ab_RR, n, nc, ns) res
      exact ab_iret (ty := .int) d_K_cable_155 rfl rfl h
    by_cases c34 : v2 = 10
    · have h := h.2.2.2.2.2.2.2.2.2.2.1 c34
      refine ab_tabIn (tgt := 156) d_K_cable_14 (by rw [c34]; decide) (by rw [c34]; decide) (by rw [ab_tab_in (j := 10) c34 (by decide)]; rfl) (by decide) ?_
      refine ab_aload_n (i := 0) d_K_cable_156 rfl rfl ?_
      refine ab_iload_n (i := 1) d_K_cable_157 rfl rfl ?_
      obtain ⟨r22, hC, h⟩ := h
      refine ab_callV (me2 := mt_K_barOf) (b := kx) (as := [.int v1]) (st := []) (rv := (some (.int r22))) (M2 := (I, L, ab_RR, n, nc, ns)) d_K_cable_158 ce_K_barOf v_1087 v_1089 v_46 (by decide) rfl (Nat.le_of_ble_eq_true rfl) hC (Nat.le_refl _) (Nat.le_refl _) hc hs (fun j h9 => by cases h9) (fun _ _ => rfl) ?_
      show ab_E w (d + 3) mt_K_cable 161 [.ref kx, .int v1, .int v2, .ref kx_now_cables] [.int r22] (I, L, ab_RR, n, nc, ns) res
      exact ab_iret (ty := .int) d_K_cable_161 rfl rfl h
    by_cases c35 : v2 = 11
    · have h := h.2.2.2.2.2.2.2.2.2.2.2.1 c35
      refine ab_tabIn (tgt := 162) d_K_cable_14 (by rw [c35]; decide) (by rw [c35]; decide) (by rw [ab_tab_in (j := 11) c35 (by decide)]; rfl) (by decide) ?_
      refine ab_aload_n (i := 0) d_K_cable_162 rfl rfl ?_
      refine ab_iload_n (i := 1) d_K_cable_163 rfl rfl ?_
      obtain ⟨r23, hC, h⟩ := h
      refine ab_callV (me2 := mt_K_lossOf) (b := kx) (as := [.int v1]) (st := []) (rv := (some (.int r23))) (M2 := (I, L, ab_RR, n, nc, ns)) d_K_cable_164 ce_K_lossOf v_1095 v_1097 v_48 (by decide) rfl (Nat.le_of_ble_eq_true rfl) hC (Nat.le_refl _) (Nat.le_refl _) hc hs (fun j h9 => by cases h9) (fun _ _ => rfl) ?_
      show ab_E w (d + 3) mt_K_cable 167 [.ref kx, .int v1, .int v2, .ref kx_now_cables] [.int r23] (I, L, ab_RR, n, nc, ns) res
      exact ab_iret (ty := .int) d_K_cable_167 rfl rfl h
    have hr : v2.toInt < 0 ∨ 11 < v2.toInt := by
      rcases Int.lt_or_le v2.toInt 0 with h9 | h9
      · exact Or.inl h9
      · refine Or.inr (Int.not_le.mp fun h8 => ?_)
        exact ab_tab_out (lo := 0) (hi := 11) (k := 12) h9 h8 (by decide) (by
          intro j hj
          match j, hj with
          | 0, _ => exact c24
          | 1, _ => exact c25
          | 2, _ => exact c26
          | 3, _ => exact c27
          | 4, _ => exact c28
          | 5, _ => exact c29
          | 6, _ => exact c30
          | 7, _ => exact c31
          | 8, _ => exact c32
          | 9, _ => exact c33
          | 10, _ => exact c34
          | 11, _ => exact c35
          | j9 + 12, hj => exact absurd hj (by omega))
    have h := h.2.2.2.2.2.2.2.2.2.2.2.2 hr
    refine ab_tabOut (tgt := 168) d_K_cable_14 hr (by decide) ?_
    exact ab_throw (E := "java/util/NoSuchElementException") d_K_cable_168 d_K_cable_171 d_K_cable_172 d_K_cable_175 (by decide +kernel) rfl v_1049 v_163 x3_K_185 x4_K_185 h8 (Nat.le_of_ble_eq_true rfl) h
  · exact ab_callVX (me2 := mt_K_needCable) (b := kx) (as := [.int v1]) (st := []) (M2 := (I, L, ab_RR, n, nc + 1, ns + 6)) rfl d_K_cable_2 ce_K_needCable v_1071 v_1073 v_43 (by decide) rfl (Nat.le_of_ble_eq_true rfl) hC (Nat.le_succ _) (Nat.le_add_right _ _) (fun _ _ => rfl) h
theorem cx_Ways_firstCable_0 {w : ab_Wd} {d n nc ns : Nat} {I : Nat → Nat → Int32} {L : Nat → Nat → Int64} (v1 : Int32) (v2 : Int32) (hT : w.1.stackTraces = false) (e1 : (vp_in ((v1 * 10) + v2) 100)) : ab_C w (d + 1) mt_Ways_firstCable [.ref kx_ways, .int v1, .int v2] (I, L, ab_RR, n, nc, ns) (.inl (some (.int (I kx_ways_step ((v1 * 10) + v2).toNatClampNeg))), (I, L, ab_RR, n, nc, ns)) := by
  refine ab_C_of (by decide) rfl (Nat.le_of_ble_eq_true rfl) hT ?_
  have hc := Nat.le_refl nc
  have hs := Nat.le_refl ns
  refine ab_aload_n (i := 0) d_Ways_firstCable_0 rfl rfl ?_
  refine ab_getR (ci := 9) (k := 3) (j := kx_ways_step) d_Ways_firstCable_1 v_364 rfl (by decide) (by decide) rfl r_kx_ways_3 ?_
  refine ab_iload_n (i := 1) d_Ways_firstCable_4 rfl rfl ?_
  refine ab_iload_n (i := 2) d_Ways_firstCable_5 rfl rfl ?_
  refine ab_callS (me2 := mt_Ways_at) (as := [.int v1, .int v2]) (st := [.ref kx_ways_step]) (rv := (some (.int ((v1 * 10) + v2)))) (M2 := (I, L, ab_RR, n, nc, ns)) d_Ways_firstCable_6 ce_Ways_at ⟨v_458, Or.inl v_457⟩ (Nat.le_of_ble_eq_true rfl) (cx_Ways_at_0 v1 v2 hT) (Nat.le_refl _) (Nat.le_refl _) hc hs (fun j h9 => by cases h9) (fun _ _ => rfl) ?_
  show ab_E w (d + 1) mt_Ways_firstCable 9 [.ref kx_ways, .int v1, .int v2] [.int ((v1 * 10) + v2), .ref kx_ways_step] (I, L, ab_RR, n, nc, ns) _
  refine ab_iald d_Ways_firstCable_9 rfl rfl e1 ?_
  exact ab_iret (ty := .int) d_Ways_firstCable_10 rfl rfl rfl
theorem cx_Cables_otherEnd_0 {w : ab_Wd} {d n nc ns : Nat} {I : Nat → Nat → Int32} {L : Nat → Nat → Int64} (v1 : Int32) (v2 : Int32) (hT : w.1.stackTraces = false) (e1 : (vp_in v1 24)) (e2 : ¬ (I kx_now_cables_first v1.toNatClampNeg) = v2) (e3 : (vp_in v1 24)) : ab_C w d mt_Cables_otherEnd [.ref kx_now_cables, .int v1, .int v2] (I, L, ab_RR, n, nc, ns) (.inl (some (.int (I kx_now_cables_first v1.toNatClampNeg))), (I, L, ab_RR, n, nc, ns)) := by
  refine ab_C_of (by decide) rfl (Nat.le_of_ble_eq_true rfl) hT ?_
  have hc := Nat.le_refl nc
  have hs := Nat.le_refl ns
  refine ab_aload_n (i := 0) d_Cables_otherEnd_0 rfl rfl ?_
  refine ab_getR (ci := 1) (k := 3) (j := kx_now_cables_first) d_Cables_otherEnd_1 v_204 rfl (by decide) (by decide) rfl r_kx_now_cables_3 ?_
  refine ab_iload_n (i := 1) d_Cables_otherEnd_4 rfl rfl ?_
  refine ab_iald d_Cables_otherEnd_5 rfl rfl e1 ?_
  refine ab_iload_n (i := 2) d_Cables_otherEnd_6 rfl rfl ?_
  refine ab_icmp_ne (tgt := 19) d_Cables_otherEnd_7 (by decide) (fun _ => ?_) (fun c9 => absurd c9 e2)
  refine ab_aload_n (i := 0) d_Cables_otherEnd_19 rfl rfl ?_
  refine ab_getR (ci := 1) (k := 3) (j := kx_now_cables_first) d_Cables_otherEnd_20 v_204 rfl (by decide) (by decide) rfl r_kx_now_cables_3 ?_
  refine ab_iload_n (i := 1) d_Cables_otherEnd_23 rfl rfl ?_
  refine ab_iald d_Cables_otherEnd_24 rfl rfl e3 ?_
  exact ab_iret (ty := .int) d_Cables_otherEnd_25 rfl rfl rfl
theorem cx_Cables_otherEnd_1 {w : ab_Wd} {d n nc ns : Nat} {I : Nat → Nat → Int32} {L : Nat → Nat → Int64} (v1 : Int32) (v2 : Int32) (hT : w.1.stackTraces = false) (e1 : (vp_in v1 24)) (e2 : (I kx_now_cables_first v1.toNatClampNeg) = v2) (e3 : (vp_in v1 24)) : ab_C w d mt_Cables_otherEnd [.ref kx_now_cables, .int v1, .int v2] (I, L, ab_RR, n, nc, ns) (.inl (some (.int (I kx_now_cables_second v1.toNatClampNeg))), (I, L, ab_RR, n, nc, ns)) := by
  refine ab_C_of (by decide) rfl (Nat.le_of_ble_eq_true rfl) hT ?_
  have hc := Nat.le_refl nc
  have hs := Nat.le_refl ns
  refine ab_aload_n (i := 0) d_Cables_otherEnd_0 rfl rfl ?_
  refine ab_getR (ci := 1) (k := 3) (j := kx_now_cables_first) d_Cables_otherEnd_1 v_204 rfl (by decide) (by decide) rfl r_kx_now_cables_3 ?_
  refine ab_iload_n (i := 1) d_Cables_otherEnd_4 rfl rfl ?_
  refine ab_iald d_Cables_otherEnd_5 rfl rfl e1 ?_
  refine ab_iload_n (i := 2) d_Cables_otherEnd_6 rfl rfl ?_
  refine ab_icmp_ne (tgt := 19) d_Cables_otherEnd_7 (by decide) (fun c9 => absurd e2 c9) (fun _ => ?_)
  refine ab_aload_n (i := 0) d_Cables_otherEnd_10 rfl rfl ?_
  refine ab_getR (ci := 1) (k := 4) (j := kx_now_cables_second) d_Cables_otherEnd_11 v_211 rfl (by decide) (by decide) rfl r_kx_now_cables_4 ?_
  refine ab_iload_n (i := 1) d_Cables_otherEnd_14 rfl rfl ?_
  refine ab_iald d_Cables_otherEnd_15 rfl rfl e3 ?_
  refine ab_goto (tgt := 25) d_Cables_otherEnd_16 (by decide) ?_
  exact ab_iret (ty := .int) d_Cables_otherEnd_25 rfl rfl rfl
