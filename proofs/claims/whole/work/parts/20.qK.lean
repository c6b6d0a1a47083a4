theorem d_K_feed_0 : decode (ab_bc mt_K_feed) 0 = .ok (.aload_n 0, 1) := by decide +kernel
theorem d_K_feed_1 : decode (ab_bc mt_K_feed) 1 = .ok (.getfield 13, 3) := by decide +kernel
theorem d_K_feed_4 : decode (ab_bc mt_K_feed) 4 = .ok (.bipush 20, 2) := by decide +kernel
theorem d_K_feed_6 : decode (ab_bc mt_K_feed) 6 = .ok (.iadd, 1) := by decide +kernel
theorem d_K_feed_7 : decode (ab_bc mt_K_feed) 7 = .ok (.sipush 700, 3) := by decide +kernel
theorem d_K_feed_10 : decode (ab_bc mt_K_feed) 10 = .ok (.if_icmp .le 5, 3) := by decide +kernel
theorem d_K_feed_13 : decode (ab_bc mt_K_feed) 13 = .ok (.iconst (-1), 1) := by decide +kernel
theorem d_K_feed_14 : decode (ab_bc mt_K_feed) 14 = .ok (.ireturn, 1) := by decide +kernel
theorem d_K_feed_15 : decode (ab_bc mt_K_feed) 15 = .ok (.aload_n 0, 1) := by decide +kernel
theorem d_K_feed_16 : decode (ab_bc mt_K_feed) 16 = .ok (.iload_n 1, 1) := by decide +kernel
theorem d_K_feed_17 : decode (ab_bc mt_K_feed) 17 = .ok (.invokevirtual 86, 3) := by decide +kernel
theorem d_K_feed_20 : decode (ab_bc mt_K_feed) 20 = .ok (.aload_n 0, 1) := by decide +kernel
theorem d_K_feed_21 : decode (ab_bc mt_K_feed) 21 = .ok (.iload_n 2, 1) := by decide +kernel
theorem d_K_feed_22 : decode (ab_bc mt_K_feed) 22 = .ok (.invokevirtual 86, 3) := by decide +kernel
theorem d_K_feed_25 : decode (ab_bc mt_K_feed) 25 = .ok (.aload_n 0, 1) := by decide +kernel
theorem d_K_feed_26 : decode (ab_bc mt_K_feed) 26 = .ok (.iload_n 3, 1) := by decide +kernel
theorem d_K_feed_27 : decode (ab_bc mt_K_feed) 27 = .ok (.invokevirtual 86, 3) := by decide +kernel
theorem d_K_feed_30 : decode (ab_bc mt_K_feed) 30 = .ok (.aload_n 0, 1) := by decide +kernel
theorem d_K_feed_31 : decode (ab_bc mt_K_feed) 31 = .ok (.iload 4, 2) := by decide +kernel
theorem d_K_feed_33 : decode (ab_bc mt_K_feed) 33 = .ok (.invokevirtual 86, 3) := by decide +kernel
theorem d_K_feed_36 : decode (ab_bc mt_K_feed) 36 = .ok (.aload_n 0, 1) := by decide +kernel
theorem d_K_feed_37 : decode (ab_bc mt_K_feed) 37 = .ok (.iload 5, 2) := by decide +kernel
theorem d_K_feed_39 : decode (ab_bc mt_K_feed) 39 = .ok (.invokevirtual 86, 3) := by decide +kernel
theorem d_K_feed_42 : decode (ab_bc mt_K_feed) 42 = .ok (.aload_n 0, 1) := by decide +kernel
theorem d_K_feed_43 : decode (ab_bc mt_K_feed) 43 = .ok (.getfield 13, 3) := by decide +kernel
theorem d_K_feed_46 : decode (ab_bc mt_K_feed) 46 = .ok (.ireturn, 1) := by decide +kernel
-- CableKeeper.feed(IIIII)I over kx
theorem q_K_feed_0 {w : ab_Wd} {d n nc ns : Nat} {I : Nat → Nat → Int32} {L : Nat → Nat → Int64} {res : ab_Re} (v1 : Int32) (v2 : Int32) (v3 : Int32) (v4 : Int32) (v5 : Int32) (hc : nc ≤ res.2.2.2.2.2.1) (hs : ns ≤ res.2.2.2.2.2.2)
    (h : ((((I kx 1) + 20) ≤ 700 → (∃ (I3 : Nat → Nat → Int32), ab_C w d mt_K_putOnTape [.ref kx, .int v1] (I, L, ab_RR, n, nc, ns) (.inl none, (I3, L, ab_RR, n, nc, ns)) ∧ ∃ (I5 : Nat → Nat → Int32), ab_C w d mt_K_putOnTape [.ref kx, .int v2] (I3, L, ab_RR, n, nc, ns) (.inl none, (I5, L, ab_RR, n, nc, ns)) ∧ ∃ (I7 : Nat → Nat → Int32), ab_C w d mt_K_putOnTape [.ref kx, .int v3] (I5, L, ab_RR, n, nc, ns) (.inl none, (I7, L, ab_RR, n, nc, ns)) ∧ ∃ (I9 : Nat → Nat → Int32), ab_C w d mt_K_putOnTape [.ref kx, .int v4] (I7, L, ab_RR, n, nc, ns) (.inl none, (I9, L, ab_RR, n, nc, ns)) ∧ ∃ (I11 : Nat → Nat → Int32), ab_C w d mt_K_putOnTape [.ref kx, .int v5] (I9, L, ab_RR, n, nc, ns) (.inl none, (I11, L, ab_RR, n, nc, ns)) ∧ res = (.inl (some (.int (I11 kx 1))), (I11, L, ab_RR, n, nc, ns)))) ∧ (¬ ((I kx 1) + 20) ≤ 700 → (res = (.inl (some (.int (-1))), (I, L, ab_RR, n, nc, ns)))))) : ab_E w (d + 1) mt_K_feed 0 [.ref kx, .int v1, .int v2, .int v3, .int v4, .int v5] [] (I, L, ab_RR, n, nc, ns) res := by
  refine ab_aload_n (i := 0) d_K_feed_0 rfl rfl ?_
  refine ab_getI (ci := 10) (k := 1) d_K_feed_1 v_473 rfl (by decide) (by decide) rfl ?_
  refine ab_bipush (v := 20) d_K_feed_4 rfl ?_
  refine ab_iadd d_K_feed_6 ?_
  refine ab_sipush (v := 700) d_K_feed_7 rfl ?_
  refine ab_icmp_le (tgt := 15) d_K_feed_10 (by decide) (fun c1 => ?_) (fun c1 => ?_)
  · have h := h.1 c1
    refine ab_aload_n (i := 0) d_K_feed_15 rfl rfl ?_
    refine ab_iload_n (i := 1) d_K_feed_16 rfl rfl ?_
    obtain ⟨I3, hC, h⟩ := h
    refine ab_callV (me2 := mt_K_putOnTape) (b := kx) (as := [.int v1]) (st := []) (rv := none) (M2 := (I3, L, ab_RR, n, nc, ns)) d_K_feed_17 ce_K_putOnTape v_519 v_521 v_4 (by decide) rfl (Nat.le_of_ble_eq_true rfl) hC (Nat.le_refl _) (Nat.le_refl _) hc hs (fun j h9 => by cases h9) (fun _ _ => rfl) ?_
    show ab_E w (d + 1) mt_K_feed 20 [.ref kx, .int v1, .int v2, .int v3, .int v4, .int v5] [] (I3, L, ab_RR, n, nc, ns) res
    refine ab_aload_n (i := 0) d_K_feed_20 rfl rfl ?_
    refine ab_iload_n (i := 2) d_K_feed_21 rfl rfl ?_
    obtain ⟨I5, hC, h⟩ := h
    refine ab_callV (me2 := mt_K_putOnTape) (b := kx) (as := [.int v2]) (st := []) (rv := none) (M2 := (I5, L, ab_RR, n, nc, ns)) d_K_feed_22 ce_K_putOnTape v_519 v_521 v_4 (by decide) rfl (Nat.le_of_ble_eq_true rfl) hC (Nat.le_refl _) (Nat.le_refl _) hc hs (fun j h9 => by cases h9) (fun _ _ => rfl) ?_
    show ab_E w (d + 1) mt_K_feed 25 [.ref kx, .int v1, .int v2, .int v3, .int v4, .int v5] [] (I5, L, ab_RR, n, nc, ns) res
    refine ab_aload_n (i := 0) d_K_feed_25 rfl rfl ?_
    refine ab_iload_n (i := 3) d_K_feed_26 rfl rfl ?_
    obtain ⟨I7, hC, h⟩ := h
    refine ab_callV (me2 := mt_K_putOnTape) (b := kx) (as := [.int v3]) (st := []) (rv := none) (M2 := (I7, L, ab_RR, n, nc, ns)) d_K_feed_27 ce_K_putOnTape v_519 v_521 v_4 (by decide) rfl (Nat.le_of_ble_eq_true rfl) hC (Nat.le_refl _) (Nat.le_refl _) hc hs (fun j h9 => by cases h9) (fun _ _ => rfl) ?_
    show ab_E w (d + 1) mt_K_feed 30 [.ref kx, .int v1, .int v2, .int v3, .int v4, .int v5] [] (I7, L, ab_RR, n, nc, ns) res
    refine ab_aload_n (i := 0) d_K_feed_30 rfl rfl ?_
    refine ab_iload (i := 4) d_K_feed_31 rfl ?_
    obtain ⟨I9, hC, h⟩ := h
    refine ab_callV (me2 := mt_K_putOnTape) (b := kx) (as := [.int v4]) (st := []) (rv := none) (M2 := (I9, L, ab_RR, n, nc, ns)) d_K_feed_33 ce_K_putOnTape v_519 v_521 v_4 (by decide) rfl (Nat.le_of_ble_eq_true rfl) hC (Nat.le_refl _) (Nat.le_refl _) hc hs (fun j h9 => by cases h9) (fun _ _ => rfl) ?_
    show ab_E w (d + 1) mt_K_feed 36 [.ref kx, .int v1, .int v2, .int v3, .int v4, .int v5] [] (I9, L, ab_RR, n, nc, ns) res
    refine ab_aload_n (i := 0) d_K_feed_36 rfl rfl ?_
    refine ab_iload (i := 5) d_K_feed_37 rfl ?_
    obtain ⟨I11, hC, h⟩ := h
    refine ab_callV (me2 := mt_K_putOnTape) (b := kx) (as := [.int v5]) (st := []) (rv := none) (M2 := (I11, L, ab_RR, n, nc, ns)) d_K_feed_39 ce_K_putOnTape v_519 v_521 v_4 (by decide) rfl (Nat.le_of_ble_eq_true rfl) hC (Nat.le_refl _) (Nat.le_refl _) hc hs (fun j h9 => by cases h9) (fun _ _ => rfl) ?_
    show ab_E w (d + 1) mt_K_feed 42 [.ref kx, .int v1, .int v2, .int v3, .int v4, .int v5] [] (I11, L, ab_RR, n, nc, ns) res
    refine ab_aload_n (i := 0) d_K_feed_42 rfl rfl ?_
    refine ab_getI (ci := 10) (k := 1) d_K_feed_43 v_473 rfl (by decide) (by decide) rfl ?_
    exact ab_iret (ty := .int) d_K_feed_46 rfl rfl h
  · have h := h.2 c1
    refine ab_iconst (v := (-1)) d_K_feed_13 rfl ?_
    exact ab_iret (ty := .int) d_K_feed_14 rfl rfl h
theorem d_K_putOnTape_0 : decode (ab_bc mt_K_putOnTape) 0 = .ok (.bipush 24, 2) := by decide +kernel
theorem d_K_putOnTape_2 : decode (ab_bc mt_K_putOnTape) 2 = .ok (.istore_n 2, 1) := by decide +kernel
theorem d_K_putOnTape_3 : decode (ab_bc mt_K_putOnTape) 3 = .ok (.iload_n 2, 1) := by decide +kernel
theorem d_K_putOnTape_4 : decode (ab_bc mt_K_putOnTape) 4 = .ok (.ifCond .lt 42, 3) := by decide +kernel
theorem d_K_putOnTape_7 : decode (ab_bc mt_K_putOnTape) 7 = .ok (.aload_n 0, 1) := by decide +kernel
theorem d_K_putOnTape_8 : decode (ab_bc mt_K_putOnTape) 8 = .ok (.getfield 13, 3) := by decide +kernel
theorem d_K_putOnTape_11 : decode (ab_bc mt_K_putOnTape) 11 = .ok (.sipush 700, 3) := by decide +kernel
theorem d_K_putOnTape_14 : decode (ab_bc mt_K_putOnTape) 14 = .ok (.if_icmp .ge 32, 3) := by decide +kernel
theorem d_K_putOnTape_17 : decode (ab_bc mt_K_putOnTape) 17 = .ok (.aload_n 0, 1) := by decide +kernel
theorem d_K_putOnTape_18 : decode (ab_bc mt_K_putOnTape) 18 = .ok (.getfield 9, 3) := by decide +kernel
theorem d_K_putOnTape_21 : decode (ab_bc mt_K_putOnTape) 21 = .ok (.aload_n 0, 1) := by decide +kernel
theorem d_K_putOnTape_22 : decode (ab_bc mt_K_putOnTape) 22 = .ok (.getfield 13, 3) := by decide +kernel
theorem d_K_putOnTape_25 : decode (ab_bc mt_K_putOnTape) 25 = .ok (.iload_n 1, 1) := by decide +kernel
theorem d_K_putOnTape_26 : decode (ab_bc mt_K_putOnTape) 26 = .ok (.iload_n 2, 1) := by decide +kernel
theorem d_K_putOnTape_27 : decode (ab_bc mt_K_putOnTape) 27 = .ok (.ishr, 1) := by decide +kernel
theorem d_K_putOnTape_28 : decode (ab_bc mt_K_putOnTape) 28 = .ok (.i2b, 1) := by decide +kernel
theorem d_K_putOnTape_29 : decode (ab_bc mt_K_putOnTape) 29 = .ok (.bastore, 1) := by decide +kernel
theorem d_K_putOnTape_30 : decode (ab_bc mt_K_putOnTape) 30 = .ok (.aload_n 0, 1) := by decide +kernel
theorem d_K_putOnTape_31 : decode (ab_bc mt_K_putOnTape) 31 = .ok (.dup, 1) := by decide +kernel
theorem d_K_putOnTape_32 : decode (ab_bc mt_K_putOnTape) 32 = .ok (.getfield 13, 3) := by decide +kernel
theorem d_K_putOnTape_35 : decode (ab_bc mt_K_putOnTape) 35 = .ok (.iconst 1, 1) := by decide +kernel
theorem d_K_putOnTape_36 : decode (ab_bc mt_K_putOnTape) 36 = .ok (.iadd, 1) := by decide +kernel
theorem d_K_putOnTape_37 : decode (ab_bc mt_K_putOnTape) 37 = .ok (.putfield 13, 3) := by decide +kernel
theorem d_K_putOnTape_40 : decode (ab_bc mt_K_putOnTape) 40 = .ok (.iinc 2 (-8), 3) := by decide +kernel
theorem d_K_putOnTape_43 : decode (ab_bc mt_K_putOnTape) 43 = .ok (.goto (-40), 3) := by decide +kernel
theorem d_K_putOnTape_46 : decode (ab_bc mt_K_putOnTape) 46 = .ok (.return_, 1) := by decide +kernel
-- CableKeeper.putOnTape(I)V over kx
theorem q_K_putOnTape_0 {w : ab_Wd} {d n nc ns : Nat} {I : Nat → Nat → Int32} {L : Nat → Nat → Int64} {res : ab_Re} (v1 : Int32) (hc : nc ≤ res.2.2.2.2.2.1) (hs : ns ≤ res.2.2.2.2.2.2)
    (h : ab_E w d mt_K_putOnTape 3 [.ref kx, .int v1, .int 24] [] (I, L, ab_RR, n, nc, ns) res) : ab_E w d mt_K_putOnTape 0 [.ref kx, .int v1, .null] [] (I, L, ab_RR, n, nc, ns) res := by
  refine ab_bipush (v := 24) d_K_putOnTape_0 rfl ?_
  refine ab_istore_n (i := 2) d_K_putOnTape_2 rfl (by decide) (Or.inr rfl) ?_
  exact h
theorem q_K_putOnTape_3 {w : ab_Wd} {d n nc ns : Nat} {I : Nat → Nat → Int32} {L : Nat → Nat → Int64} {res : ab_Re} (v1 : Int32) (v2 : Int32) (hc : nc ≤ res.2.2.2.2.2.1) (hs : ns ≤ res.2.2.2.2.2.2)
    (h : ((v2 < 0 → (ab_E w d mt_K_putOnTape 46 [.ref kx, .int v1, .int v2] [] (I, L, ab_RR, n, nc, ns) res)) ∧ (¬ v2 < 0 → ((700 ≤ (I kx 1) → (ab_E w d mt_K_putOnTape 46 [.ref kx, .int v1, .int v2] [] (I, L, ab_RR, n, nc, ns) res)) ∧ (¬ 700 ≤ (I kx 1) → ((vp_in (I kx 1) 700) ∧ ab_E w d mt_K_putOnTape 3 [.ref kx, .int v1, .int (v2 + (-8))] [] ((ab_up (ab_up I kx_tape (I kx 1).toNatClampNeg (vp_nar .byte (ab_i2b8 (v1 >>> (v2 &&& 31))))) kx 1 ((I kx 1) + 1)), L, ab_RR, n, nc, ns) res)))))) : ab_E w d mt_K_putOnTape 3 [.ref kx, .int v1, .int v2] [] (I, L, ab_RR, n, nc, ns) res := by
  refine ab_iload_n (i := 2) d_K_putOnTape_3 rfl rfl ?_
  refine ab_if_lt (tgt := 46) d_K_putOnTape_4 (by decide) (fun c1 => ?_) (fun c1 => ?_)
  · have h := h.1 c1
    exact h
  · have h := h.2 c1
    refine ab_aload_n (i := 0) d_K_putOnTape_7 rfl rfl ?_
    refine ab_getI (ci := 10) (k := 1) d_K_putOnTape_8 v_473 rfl (by decide) (by decide) rfl ?_
    refine ab_sipush (v := 700) d_K_putOnTape_11 rfl ?_
    refine ab_icmp_ge (tgt := 46) d_K_putOnTape_14 (by decide) (fun c2 => ?_) (fun c2 => ?_)
    · have h := h.1 c2
      exact h
    · have h := h.2 c2
      refine ab_aload_n (i := 0) d_K_putOnTape_17 rfl rfl ?_
      refine ab_getR (ci := 10) (k := 0) (j := kx_tape) d_K_putOnTape_18 v_472 rfl (by decide) (by decide) rfl r_kx_0 ?_
      refine ab_aload_n (i := 0) d_K_putOnTape_21 rfl rfl ?_
      refine ab_getI (ci := 10) (k := 1) d_K_putOnTape_22 v_473 rfl (by decide) (by decide) rfl ?_
      refine ab_iload_n (i := 1) d_K_putOnTape_25 rfl rfl ?_
      refine ab_iload_n (i := 2) d_K_putOnTape_26 rfl rfl ?_
      refine ab_ishr d_K_putOnTape_27 ?_
      refine ab_i2b d_K_putOnTape_28 ?_
      have g3 := h.1; have h := h.2
      refine ab_bast d_K_putOnTape_29 rfl rfl g3 ?_
      refine ab_aload_n (i := 0) d_K_putOnTape_30 rfl rfl ?_
      refine ab_dupr d_K_putOnTape_31 ?_
      refine ab_getI (ci := 10) (k := 1) d_K_putOnTape_32 v_473 rfl (by decide) (by decide) rfl ?_
      refine ab_iconst (v := 1) d_K_putOnTape_35 rfl ?_
      refine ab_iadd d_K_putOnTape_36 ?_
      refine ab_putI (ci := 10) (k := 1) d_K_putOnTape_37 v_473 rfl (by decide) (by decide) rfl (Or.inl rfl) rfl rfl ?_
      refine ab_iinc (i := 2) (v := (v2 + (-8))) d_K_putOnTape_40 rfl rfl (by decide) (Or.inr rfl) ?_
      refine ab_goto (tgt := 3) d_K_putOnTape_43 (by decide) ?_
      exact h
theorem q_K_putOnTape_46 {w : ab_Wd} {d n nc ns : Nat} {I : Nat → Nat → Int32} {L : Nat → Nat → Int64} {res : ab_Re} (v1 : Int32) (v2 : Int32) (hc : nc ≤ res.2.2.2.2.2.1) (hs : ns ≤ res.2.2.2.2.2.2)
    (h : res = (.inl none, (I, L, ab_RR, n, nc, ns))) : ab_E w d mt_K_putOnTape 46 [.ref kx, .int v1, .int v2] [] (I, L, ab_RR, n, nc, ns) res := by
  exact ab_vret d_K_putOnTape_46 rfl h
theorem d_K_net_0 : decode (ab_bc mt_K_net) 0 = .ok (.iload_n 1, 1) := by decide +kernel
theorem d_K_net_1 : decode (ab_bc mt_K_net) 1 = .ok (.ifCond .lt 11, 3) := by decide +kernel
theorem d_K_net_4 : decode (ab_bc mt_K_net) 4 = .ok (.iload_n 1, 1) := by decide +kernel
theorem d_K_net_5 : decode (ab_bc mt_K_net) 5 = .ok (.aload_n 0, 1) := by decide +kernel
theorem d_K_net_6 : decode (ab_bc mt_K_net) 6 = .ok (.getfield 13, 3) := by decide +kernel
theorem d_K_net_9 : decode (ab_bc mt_K_net) 9 = .ok (.if_icmp .le 11, 3) := by decide +kernel
theorem d_K_net_12 : decode (ab_bc mt_K_net) 12 = .ok (.new 90, 3) := by decide +kernel
theorem d_K_net_15 : decode (ab_bc mt_K_net) 15 = .ok (.dup, 1) := by decide +kernel
theorem d_K_net_16 : decode (ab_bc mt_K_net) 16 = .ok (.invokespecial 92, 3) := by decide +kernel
theorem d_K_net_19 : decode (ab_bc mt_K_net) 19 = .ok (.athrow, 1) := by decide +kernel
theorem d_K_net_20 : decode (ab_bc mt_K_net) 20 = .ok (.new 93, 3) := by decide +kernel
theorem d_K_net_23 : decode (ab_bc mt_K_net) 23 = .ok (.dup, 1) := by decide +kernel
theorem d_K_net_24 : decode (ab_bc mt_K_net) 24 = .ok (.aload_n 0, 1) := by decide +kernel
theorem d_K_net_25 : decode (ab_bc mt_K_net) 25 = .ok (.getfield 9, 3) := by decide +kernel
theorem d_K_net_28 : decode (ab_bc mt_K_net) 28 = .ok (.iload_n 1, 1) := by decide +kernel
theorem d_K_net_29 : decode (ab_bc mt_K_net) 29 = .ok (.aload_n 0, 1) := by decide +kernel
theorem d_K_net_30 : decode (ab_bc mt_K_net) 30 = .ok (.getfield 51, 3) := by decide +kernel
theorem d_K_net_33 : decode (ab_bc mt_K_net) 33 = .ok (.invokespecial 95, 3) := by decide +kernel
theorem d_K_net_36 : decode (ab_bc mt_K_net) 36 = .ok (.astore_n 2, 1) := by decide +kernel
theorem d_K_net_37 : decode (ab_bc mt_K_net) 37 = .ok (.aload_n 2, 1) := by decide +kernel
theorem d_K_net_38 : decode (ab_bc mt_K_net) 38 = .ok (.invokevirtual 98, 3) := by decide +kernel
theorem d_K_net_41 : decode (ab_bc mt_K_net) 41 = .ok (.istore_n 3, 1) := by decide +kernel
theorem d_K_net_42 : decode (ab_bc mt_K_net) 42 = .ok (.aload_n 0, 1) := by decide +kernel
theorem d_K_net_43 : decode (ab_bc mt_K_net) 43 = .ok (.iconst 0, 1) := by decide +kernel
theorem d_K_net_44 : decode (ab_bc mt_K_net) 44 = .ok (.putfield 13, 3) := by decide +kernel
theorem d_K_net_47 : decode (ab_bc mt_K_net) 47 = .ok (.aload_n 0, 1) := by decide +kernel
theorem d_K_net_48 : decode (ab_bc mt_K_net) 48 = .ok (.aload_n 2, 1) := by decide +kernel
theorem d_K_net_49 : decode (ab_bc mt_K_net) 49 = .ok (.getfield 102, 3) := by decide +kernel
theorem d_K_net_52 : decode (ab_bc mt_K_net) 52 = .ok (.putfield 17, 3) := by decide +kernel
theorem d_K_net_55 : decode (ab_bc mt_K_net) 55 = .ok (.iload_n 3, 1) := by decide +kernel
theorem d_K_net_56 : decode (ab_bc mt_K_net) 56 = .ok (.ifCond .eq 18, 3) := by decide +kernel
theorem d_K_net_59 : decode (ab_bc mt_K_net) 59 = .ok (.aload_n 0, 1) := by decide +kernel
theorem d_K_net_60 : decode (ab_bc mt_K_net) 60 = .ok (.getfield 23, 3) := by decide +kernel
theorem d_K_net_63 : decode (ab_bc mt_K_net) 63 = .ok (.getfield 103, 3) := by decide +kernel
theorem d_K_net_66 : decode (ab_bc mt_K_net) 66 = .ok (.iconst 0, 1) := by decide +kernel
theorem d_K_net_67 : decode (ab_bc mt_K_net) 67 = .ok (.dup2, 1) := by decide +kernel
theorem d_K_net_68 : decode (ab_bc mt_K_net) 68 = .ok (.iaload, 1) := by decide +kernel
theorem d_K_net_69 : decode (ab_bc mt_K_net) 69 = .ok (.iconst 1, 1) := by decide +kernel
theorem d_K_net_70 : decode (ab_bc mt_K_net) 70 = .ok (.iadd, 1) := by decide +kernel
theorem d_K_net_71 : decode (ab_bc mt_K_net) 71 = .ok (.iastore, 1) := by decide +kernel
theorem d_K_net_72 : decode (ab_bc mt_K_net) 72 = .ok (.iload_n 3, 1) := by decide +kernel
theorem d_K_net_73 : decode (ab_bc mt_K_net) 73 = .ok (.ireturn, 1) := by decide +kernel
theorem d_K_net_74 : decode (ab_bc mt_K_net) 74 = .ok (.aload_n 0, 1) := by decide +kernel
theorem d_K_net_75 : decode (ab_bc mt_K_net) 75 = .ok (.getfield 23, 3) := by decide +kernel
theorem d_K_net_78 : decode (ab_bc mt_K_net) 78 = .ok (.aload_n 0, 1) := by decide +kernel
theorem d_K_net_79 : decode (ab_bc mt_K_net) 79 = .ok (.getfield 51, 3) := by decide +kernel
theorem d_K_net_82 : decode (ab_bc mt_K_net) 82 = .ok (.invokevirtual 106, 3) := by decide +kernel
theorem d_K_net_85 : decode (ab_bc mt_K_net) 85 = .ok (.aload_n 0, 1) := by decide +kernel
theorem d_K_net_86 : decode (ab_bc mt_K_net) 86 = .ok (.iconst 0, 1) := by decide +kernel
theorem d_K_net_87 : decode (ab_bc mt_K_net) 87 = .ok (.putfield 30, 3) := by decide +kernel
theorem d_K_net_90 : decode (ab_bc mt_K_net) 90 = .ok (.aload_n 0, 1) := by decide +kernel
theorem d_K_net_91 : decode (ab_bc mt_K_net) 91 = .ok (.invokevirtual 83, 3) := by decide +kernel
theorem d_K_net_94 : decode (ab_bc mt_K_net) 94 = .ok (.iconst 0, 1) := by decide +kernel
theorem d_K_net_95 : decode (ab_bc mt_K_net) 95 = .ok (.ireturn, 1) := by decide +kernel
-- CableKeeper.net(I)I over kx
theorem q_K_net_0 {w : ab_Wd} {d n nc ns : Nat} {I : Nat → Nat → Int32} {L : Nat → Nat → Int64} {res : ab_Re} (v1 : Int32) (h8 : 8 ≤ (d + 1)) (hc : nc ≤ res.2.2.2.2.2.1) (hs : ns ≤ res.2.2.2.2.2.2)
    (h : ((v1 < 0 → (ab_E w (d + 1) mt_K_net 12 [.ref kx, .int v1, .null, .null] [] (I, L, ab_RR, 91, nc, ns) res)) ∧ (¬ v1 < 0 → ((v1 ≤ (I kx 1) → ((nc + 1 ≤ res.2.2.2.2.2.1 ∧ ns + 9 ≤ res.2.2.2.2.2.2) ∧ ∃ (I3 : Nat → Nat → Int32), ab_C w d mt_Reader_init [.ref kx_reader, .ref kx_tape, .int v1, .ref kx_trial] ((ab_row I kx_reader (fun _ => 0)), (ab_row L kx_reader (fun _ => 0)), (ab_row ab_RR kx_reader (fun _ => .null)), 92, (nc + 1), (ns + 9)) (.inl none, (I3, (ab_row L kx_reader (fun _ => 0)), ab_RR, 92, (nc + 1), (ns + 9))) ∧ ∃ (r4 : Int32) (I5 : Nat → Nat → Int32), ab_C w d mt_Reader_readText [.ref kx_reader] (I3, (ab_row L kx_reader (fun _ => 0)), ab_RR, 92, (nc + 1), (ns + 9)) (.inl (some (.int r4)), (I5, (ab_row L kx_reader (fun _ => 0)), ab_RR, 92, (nc + 1), (ns + 9))) ∧ ((r4 = 0 → (∃ (I8 : Nat → Nat → Int32), ab_C w d mt_State_begin [.ref kx_now, .ref kx_trial] ((ab_up (ab_up I5 kx 1 0) kx 2 (I5 kx_reader 8)), (ab_row L kx_reader (fun _ => 0)), ab_RR, 92, (nc + 1), (ns + 9)) (.inl none, (I8, (ab_row L kx_reader (fun _ => 0)), ab_RR, 92, (nc + 1), (ns + 9))) ∧ ∃ (I10 : Nat → Nat → Int32), ab_C w d mt_K_settle [.ref kx] ((ab_up I8 kx 5 0), (ab_row L kx_reader (fun _ => 0)), ab_RR, 92, (nc + 1), (ns + 9)) (.inl none, (I10, (ab_row L kx_reader (fun _ => 0)), ab_RR, 92, (nc + 1), (ns + 9))) ∧ res = (.inl (some (.int 0)), (I10, (ab_row L kx_reader (fun _ => 0)), ab_RR, 92, (nc + 1), (ns + 9))))) ∧ (¬ r4 = 0 → (res = (.inl (some (.int r4)), ((ab_up (ab_up (ab_up I5 kx 1 0) kx 2 (I5 kx_reader 8)) kx_now_refused 0 ((I5 kx_now_refused 0) + 1)), (ab_row L kx_reader (fun _ => 0)), ab_RR, 92, (nc + 1), (ns + 9)))))))) ∧ (¬ v1 ≤ (I kx 1) → (ab_E w (d + 1) mt_K_net 12 [.ref kx, .int v1, .null, .null] [] (I, L, ab_RR, 91, nc, ns) res)))))) : ab_E w (d + 1) mt_K_net 0 [.ref kx, .int v1, .null, .null] [] (I, L, ab_RR, 91, nc, ns) res := by
  refine ab_iload_n (i := 1) d_K_net_0 rfl rfl ?_
  refine ab_if_lt (tgt := 12) d_K_net_1 (by decide) (fun c1 => ?_) (fun c1 => ?_)
  · have h := h.1 c1
    exact h
  · have h := h.2 c1
    refine ab_iload_n (i := 1) d_K_net_4 rfl rfl ?_
    refine ab_aload_n (i := 0) d_K_net_5 rfl rfl ?_
    refine ab_getI (ci := 10) (k := 1) d_K_net_6 v_473 rfl (by decide) (by decide) rfl ?_
    refine ab_icmp_le (tgt := 20) d_K_net_9 (by decide) (fun c2 => ?_) (fun c2 => ?_)
    · have h := h.1 c2
      have hc := h.1.1; have hs := h.1.2; have h := h.2
      refine ab_new0 (i := kx_reader) (ci := 4) (show ab_bl kx_reader = 91 + 1 from by decide) (by decide) d_K_net_20 (by decide) v_761 v_762 v_156 hc hs ?_
      show ab_E w (d + 1) mt_K_net 23 [.ref kx, .int v1, .null, .null] [.ref kx_reader] ((ab_row I kx_reader (fun _ => 0)), (ab_row L kx_reader (fun _ => 0)), (ab_row ab_RR kx_reader (fun _ => .null)), 92, (nc + 1), (ns + 9)) res
      refine ab_dupr d_K_net_23 ?_
      refine ab_aload_n (i := 0) d_K_net_24 rfl rfl ?_
      refine ab_getR (ci := 10) (k := 0) (j := kx_tape) d_K_net_25 v_472 rfl (by decide) (by decide) rfl r_kx_0 ?_
      refine ab_iload_n (i := 1) d_K_net_28 rfl rfl ?_
      refine ab_aload_n (i := 0) d_K_net_29 rfl rfl ?_
      refine ab_getR (ci := 10) (k := 8) (j := kx_trial) d_K_net_30 v_480 rfl (by decide) (by decide) rfl r_kx_8 ?_
      obtain ⟨I3, hC, h⟩ := h
      refine ab_callI (me2 := mt_Reader_init) (b := kx_reader) (as := [.ref kx_tape, .int v1, .ref kx_trial]) (st := [.ref kx_reader]) (M2 := (I3, (ab_row L kx_reader (fun _ => 0)), ab_RR, 92, (nc + 1), (ns + 9))) d_K_net_33 ce_Reader_init (Or.inl v_763) v_764 rfl rfl (Nat.le_of_ble_eq_true rfl) hC (Nat.le_refl _) (Nat.le_refl _) hc hs (Nat.le_refl _) ?_
      show ab_E w (d + 1) mt_K_net 36 [.ref kx, .int v1, .null, .null] [.ref kx_reader] (I3, (ab_row L kx_reader (fun _ => 0)), ab_RR, 92, (nc + 1), (ns + 9)) res
      refine ab_astore_n (i := 2) d_K_net_36 rfl (by decide) (Or.inr rfl) ?_
      refine ab_aload_n (i := 2) d_K_net_37 rfl rfl ?_
      obtain ⟨r4, I5, hC, h⟩ := h
      refine ab_callV (me2 := mt_Reader_readText) (b := kx_reader) (as := []) (st := []) (rv := (some (.int r4))) (M2 := (I5, (ab_row L kx_reader (fun _ => 0)), ab_RR, 92, (nc + 1), (ns + 9))) d_K_net_38 ce_Reader_readText v_796 v_797 v_798 (by decide) rfl (Nat.le_of_ble_eq_true rfl) hC (Nat.le_refl _) (Nat.le_refl _) hc hs (fun j h9 => by cases h9) (fun _ _ => rfl) ?_
      show ab_E w (d + 1) mt_K_net 41 [.ref kx, .int v1, .ref kx_reader, .null] [.int r4] (I5, (ab_row L kx_reader (fun _ => 0)), ab_RR, 92, (nc + 1), (ns + 9)) res
      refine ab_istore_n (i := 3) d_K_net_41 rfl (by decide) (Or.inr rfl) ?_
      refine ab_aload_n (i := 0) d_K_net_42 rfl rfl ?_
      refine ab_iconst (v := 0) d_K_net_43 rfl ?_
      refine ab_putI (ci := 10) (k := 1) d_K_net_44 v_473 rfl (by decide) (by decide) rfl (Or.inl rfl) rfl rfl ?_
      refine ab_aload_n (i := 0) d_K_net_47 rfl rfl ?_
      refine ab_aload_n (i := 2) d_K_net_48 rfl rfl ?_
      refine ab_getI (ci := 4) (k := 8) d_K_net_49 v_776 rfl (by decide) (by decide) rfl ?_
      refine ab_putI (ci := 10) (k := 2) d_K_net_52 v_474 rfl (by decide) (by decide) rfl (Or.inl rfl) rfl rfl ?_
      refine ab_iload_n (i := 3) d_K_net_55 rfl rfl ?_
      refine ab_if_eq (tgt := 74) d_K_net_56 (by decide) (fun c6 => ?_) (fun c6 => ?_)
      · have h := h.1 c6
        refine ab_aload_n (i := 0) d_K_net_74 rfl rfl ?_
        refine ab_getR (ci := 10) (k := 3) (j := kx_now) d_K_net_75 v_475 rfl (by decide) (by decide) rfl r_kx_3 ?_
        refine ab_aload_n (i := 0) d_K_net_78 rfl rfl ?_
        refine ab_getR (ci := 10) (k := 8) (j := kx_trial) d_K_net_79 v_480 rfl (by decide) (by decide) rfl r_kx_8 ?_
        obtain ⟨I8, hC, h⟩ := h
        refine ab_callV (me2 := mt_State_begin) (b := kx_now) (as := [.ref kx_trial]) (st := []) (rv := none) (M2 := (I8, (ab_row L kx_reader (fun _ => 0)), ab_RR, 92, (nc + 1), (ns + 9))) d_K_net_82 ce_State_begin v_910 v_911 v_912 (by decide) rfl (Nat.le_of_ble_eq_true rfl) hC (Nat.le_refl _) (Nat.le_refl _) hc hs (fun j h9 => by cases h9) (fun _ _ => rfl) ?_
        show ab_E w (d + 1) mt_K_net 85 [.ref kx, .int v1, .ref kx_reader, .int r4] [] (I8, (ab_row L kx_reader (fun _ => 0)), ab_RR, 92, (nc + 1), (ns + 9)) res
        refine ab_aload_n (i := 0) d_K_net_85 rfl rfl ?_
        refine ab_iconst (v := 0) d_K_net_86 rfl ?_
        refine ab_putI (ci := 10) (k := 5) d_K_net_87 v_477 rfl (by decide) (by decide) rfl (Or.inl rfl) rfl rfl ?_
        refine ab_aload_n (i := 0) d_K_net_90 rfl rfl ?_
        obtain ⟨I10, hC, h⟩ := h
        refine ab_callV (me2 := mt_K_settle) (b := kx) (as := []) (st := []) (rv := none) (M2 := (I10, (ab_row L kx_reader (fun _ => 0)), ab_RR, 92, (nc + 1), (ns + 9))) d_K_net_91 ce_K_settle v_436 v_438 v_0 (by decide) rfl (Nat.le_of_ble_eq_true rfl) hC (Nat.le_refl _) (Nat.le_refl _) hc hs (fun j h9 => by cases h9) (fun _ _ => rfl) ?_
        show ab_E w (d + 1) mt_K_net 94 [.ref kx, .int v1, .ref kx_reader, .int r4] [] (I10, (ab_row L kx_reader (fun _ => 0)), ab_RR, 92, (nc + 1), (ns + 9)) res
        refine ab_iconst (v := 0) d_K_net_94 rfl ?_
        exact ab_iret (ty := .int) d_K_net_95 rfl rfl h
      · have h := h.2 c6
        refine ab_aload_n (i := 0) d_K_net_59 rfl rfl ?_
        refine ab_getR (ci := 10) (k := 3) (j := kx_now) d_K_net_60 v_475 rfl (by decide) (by decide) rfl r_kx_3 ?_
        refine ab_getR (ci := 6) (k := 6) (j := kx_now_refused) d_K_net_63 v_306 rfl (by decide) (by decide) rfl r_kx_now_6 ?_
        refine ab_iconst (v := 0) d_K_net_66 rfl ?_
        refine ab_dup2 d_K_net_67 ?_
        refine ab_iald d_K_net_68 rfl rfl (by unfold vp_in; decide) ?_
        refine ab_iconst (v := 1) d_K_net_69 rfl ?_
        refine ab_iadd d_K_net_70 ?_
        refine ab_iast d_K_net_71 rfl rfl (by unfold vp_in; decide) ?_
        refine ab_iload_n (i := 3) d_K_net_72 rfl rfl ?_
        exact ab_iret (ty := .int) d_K_net_73 rfl rfl h
    · have h := h.2 c2
      exact h
theorem q_K_net_12 {w : ab_Wd} {d n nc ns : Nat} {I : Nat → Nat → Int32} {L : Nat → Nat → Int64} {res : ab_Re} (v1 : Int32) (h8 : 8 ≤ (d + 1)) (hc : nc ≤ res.2.2.2.2.2.1) (hs : ns ≤ res.2.2.2.2.2.2)
    (h : res = (.inr "java/lang/IllegalArgumentException", (I, L, ab_RR, 91, nc + 1, ns + 6))) : ab_E w (d + 1) mt_K_net 12 [.ref kx, .int v1, .null, .null] [] (I, L, ab_RR, 91, nc, ns) res := by
  exact ab_throw (E := "java/lang/IllegalArgumentException") d_K_net_12 d_K_net_15 d_K_net_16 d_K_net_19 (by decide +kernel) rfl v_698 v_155 x3_K_92 x4_K_92 h8 (Nat.le_of_ble_eq_true rfl) h
theorem d_K_fault_0 : decode (ab_bc mt_K_fault) 0 = .ok (.aload_n 0, 1) := by decide +kernel
theorem d_K_fault_1 : decode (ab_bc mt_K_fault) 1 = .ok (.getfield 17, 3) := by decide +kernel
theorem d_K_fault_4 : decode (ab_bc mt_K_fault) 4 = .ok (.ireturn, 1) := by decide +kernel
-- CableKeeper.fault()I over kx
theorem q_K_fault_0 {w : ab_Wd} {d n nc ns : Nat} {I : Nat → Nat → Int32} {L : Nat → Nat → Int64} {res : ab_Re}  (hc : nc ≤ res.2.2.2.2.2.1) (hs : ns ≤ res.2.2.2.2.2.2)
    (h : res = (.inl (some (.int (I kx 2))), (I, L, ab_RR, n, nc, ns))) : ab_E w d mt_K_fault 0 [.ref kx] [] (I, L, ab_RR, n, nc, ns) res := by
  refine ab_aload_n (i := 0) d_K_fault_0 rfl rfl ?_
  refine ab_getI (ci := 10) (k := 2) d_K_fault_1 v_474 rfl (by decide) (by decide) rfl ?_
  exact ab_iret (ty := .int) d_K_fault_4 rfl rfl h
