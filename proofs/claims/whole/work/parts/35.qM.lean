theorem d_M_isSound_0 : decode (ab_bc mt_M_isSound) 0 = .ok (.aload_n 0, 1) := by decide +kernel
theorem d_M_isSound_1 : decode (ab_bc mt_M_isSound) 1 = .ok (.getfield 24, 3) := by decide +kernel
theorem d_M_isSound_4 : decode (ab_bc mt_M_isSound) 4 = .ok (.iconst 1, 1) := by decide +kernel
theorem d_M_isSound_5 : decode (ab_bc mt_M_isSound) 5 = .ok (.iaload, 1) := by decide +kernel
theorem d_M_isSound_6 : decode (ab_bc mt_M_isSound) 6 = .ok (.iload_n 1, 1) := by decide +kernel
theorem d_M_isSound_7 : decode (ab_bc mt_M_isSound) 7 = .ok (.ishr, 1) := by decide +kernel
theorem d_M_isSound_8 : decode (ab_bc mt_M_isSound) 8 = .ok (.iconst 1, 1) := by decide +kernel
theorem d_M_isSound_9 : decode (ab_bc mt_M_isSound) 9 = .ok (.iand, 1) := by decide +kernel
theorem d_M_isSound_10 : decode (ab_bc mt_M_isSound) 10 = .ok (.iconst 1, 1) := by decide +kernel
theorem d_M_isSound_11 : decode (ab_bc mt_M_isSound) 11 = .ok (.if_icmp .ne 7, 3) := by decide +kernel
theorem d_M_isSound_14 : decode (ab_bc mt_M_isSound) 14 = .ok (.iconst 1, 1) := by decide +kernel
theorem d_M_isSound_15 : decode (ab_bc mt_M_isSound) 15 = .ok (.goto 4, 3) := by decide +kernel
theorem d_M_isSound_18 : decode (ab_bc mt_M_isSound) 18 = .ok (.iconst 0, 1) := by decide +kernel
theorem d_M_isSound_19 : decode (ab_bc mt_M_isSound) 19 = .ok (.ireturn, 1) := by decide +kernel
-- CableKeeperModel.isSound(I)Z over mx
theorem q_M_isSound_0 {w : ab_Wd} {d n nc ns : Nat} {I : Nat → Nat → Int32} {L : Nat → Nat → Int64} {res : ab_Re} (v1 : Int32) (hc : nc ≤ res.2.2.2.2.2.1) (hs : ns ≤ res.2.2.2.2.2.2)
    (h : ((¬ (((I mx_now 1) >>> (v1 &&& 31)) &&& 1) = 1 → (ab_E w d mt_M_isSound 19 [.ref mx, .int v1] [.int 0] (I, L, ab_RR, n, nc, ns) res)) ∧ ((((I mx_now 1) >>> (v1 &&& 31)) &&& 1) = 1 → (ab_E w d mt_M_isSound 19 [.ref mx, .int v1] [.int 1] (I, L, ab_RR, n, nc, ns) res)))) : ab_E w d mt_M_isSound 0 [.ref mx, .int v1] [] (I, L, ab_RR, n, nc, ns) res := by
  refine ab_aload_n (i := 0) d_M_isSound_0 rfl rfl ?_
  refine ab_getR (ci := 11) (k := 4) (j := mx_now) d_M_isSound_1 v_1372 rfl (by decide) (by decide) rfl r_mx_4 ?_
  refine ab_iconst (v := 1) d_M_isSound_4 rfl ?_
  refine ab_iald d_M_isSound_5 rfl rfl (by unfold vp_in; decide) ?_
  refine ab_iload_n (i := 1) d_M_isSound_6 rfl rfl ?_
  refine ab_ishr d_M_isSound_7 ?_
  refine ab_iconst (v := 1) d_M_isSound_8 rfl ?_
  refine ab_iand d_M_isSound_9 ?_
  refine ab_iconst (v := 1) d_M_isSound_10 rfl ?_
  refine ab_icmp_ne (tgt := 18) d_M_isSound_11 (by decide) (fun c1 => ?_) (fun c1 => ?_)
  · have h := h.1 c1
    refine ab_iconst (v := 0) d_M_isSound_18 rfl ?_
    exact h
  · have h := h.2 c1
    refine ab_iconst (v := 1) d_M_isSound_14 rfl ?_
    refine ab_goto (tgt := 19) d_M_isSound_15 (by decide) ?_
    exact h
theorem q_M_isSound_19 {w : ab_Wd} {d n nc ns : Nat} {I : Nat → Nat → Int32} {L : Nat → Nat → Int64} {res : ab_Re} (v1 : Int32) (s0 : Int32) (hc : nc ≤ res.2.2.2.2.2.1) (hs : ns ≤ res.2.2.2.2.2.2)
    (h : (narrow .boolean (.int s0) = .int s0) ∧ res = (.inl (some (.int s0)), (I, L, ab_RR, n, nc, ns))) : ab_E w d mt_M_isSound 19 [.ref mx, .int v1] [.int s0] (I, L, ab_RR, n, nc, ns) res := by
  have g := h.1; have h := h.2
  exact ab_iret (ty := .boolean) d_M_isSound_19 rfl g h
theorem d_M_isCheaper_0 : decode (ab_bc mt_M_isCheaper) 0 = .ok (.aload_n 0, 1) := by decide +kernel
theorem d_M_isCheaper_1 : decode (ab_bc mt_M_isCheaper) 1 = .ok (.iload_n 1, 1) := by decide +kernel
theorem d_M_isCheaper_2 : decode (ab_bc mt_M_isCheaper) 2 = .ok (.invokevirtual 222, 3) := by decide +kernel
theorem d_M_isCheaper_5 : decode (ab_bc mt_M_isCheaper) 5 = .ok (.aload_n 0, 1) := by decide +kernel
theorem d_M_isCheaper_6 : decode (ab_bc mt_M_isCheaper) 6 = .ok (.iload_n 2, 1) := by decide +kernel
theorem d_M_isCheaper_7 : decode (ab_bc mt_M_isCheaper) 7 = .ok (.invokevirtual 222, 3) := by decide +kernel
theorem d_M_isCheaper_10 : decode (ab_bc mt_M_isCheaper) 10 = .ok (.if_icmp .lt 21, 3) := by decide +kernel
theorem d_M_isCheaper_13 : decode (ab_bc mt_M_isCheaper) 13 = .ok (.aload_n 0, 1) := by decide +kernel
theorem d_M_isCheaper_14 : decode (ab_bc mt_M_isCheaper) 14 = .ok (.iload_n 1, 1) := by decide +kernel
theorem d_M_isCheaper_15 : decode (ab_bc mt_M_isCheaper) 15 = .ok (.invokevirtual 222, 3) := by decide +kernel
theorem d_M_isCheaper_18 : decode (ab_bc mt_M_isCheaper) 18 = .ok (.aload_n 0, 1) := by decide +kernel
theorem d_M_isCheaper_19 : decode (ab_bc mt_M_isCheaper) 19 = .ok (.iload_n 2, 1) := by decide +kernel
theorem d_M_isCheaper_20 : decode (ab_bc mt_M_isCheaper) 20 = .ok (.invokevirtual 222, 3) := by decide +kernel
theorem d_M_isCheaper_23 : decode (ab_bc mt_M_isCheaper) 23 = .ok (.if_icmp .ne 12, 3) := by decide +kernel
theorem d_M_isCheaper_26 : decode (ab_bc mt_M_isCheaper) 26 = .ok (.iload_n 1, 1) := by decide +kernel
theorem d_M_isCheaper_27 : decode (ab_bc mt_M_isCheaper) 27 = .ok (.iload_n 2, 1) := by decide +kernel
theorem d_M_isCheaper_28 : decode (ab_bc mt_M_isCheaper) 28 = .ok (.if_icmp .ge 7, 3) := by decide +kernel
theorem d_M_isCheaper_31 : decode (ab_bc mt_M_isCheaper) 31 = .ok (.iconst 1, 1) := by decide +kernel
theorem d_M_isCheaper_32 : decode (ab_bc mt_M_isCheaper) 32 = .ok (.goto 4, 3) := by decide +kernel
theorem d_M_isCheaper_35 : decode (ab_bc mt_M_isCheaper) 35 = .ok (.iconst 0, 1) := by decide +kernel
theorem d_M_isCheaper_36 : decode (ab_bc mt_M_isCheaper) 36 = .ok (.ireturn, 1) := by decide +kernel
-- CableKeeperModel.isCheaper(II)Z over mx
theorem q_M_isCheaper_0 {w : ab_Wd} {d n nc ns : Nat} {I : Nat → Nat → Int32} {L : Nat → Nat → Int64} {res : ab_Re} (v1 : Int32) (v2 : Int32) (hc : nc ≤ res.2.2.2.2.2.1) (hs : ns ≤ res.2.2.2.2.2.2)
    (h : ∃ (r1 : Int32), ab_C w d mt_M_priceOf [.ref mx, .int v1] (I, L, ab_RR, n, nc, ns) (.inl (some (.int r1)), (I, L, ab_RR, n, nc, ns)) ∧ ∃ (r2 : Int32), ab_C w d mt_M_priceOf [.ref mx, .int v2] (I, L, ab_RR, n, nc, ns) (.inl (some (.int r2)), (I, L, ab_RR, n, nc, ns)) ∧ ((r1 < r2 → (ab_E w (d + 1) mt_M_isCheaper 31 [.ref mx, .int v1, .int v2] [] (I, L, ab_RR, n, nc, ns) res)) ∧ (¬ r1 < r2 → (∃ (r4 : Int32), ab_C w d mt_M_priceOf [.ref mx, .int v1] (I, L, ab_RR, n, nc, ns) (.inl (some (.int r4)), (I, L, ab_RR, n, nc, ns)) ∧ ∃ (r5 : Int32), ab_C w d mt_M_priceOf [.ref mx, .int v2] (I, L, ab_RR, n, nc, ns) (.inl (some (.int r5)), (I, L, ab_RR, n, nc, ns)) ∧ ((¬ r4 = r5 → (ab_E w (d + 1) mt_M_isCheaper 35 [.ref mx, .int v1, .int v2] [] (I, L, ab_RR, n, nc, ns) res)) ∧ (r4 = r5 → ((v2 ≤ v1 → (ab_E w (d + 1) mt_M_isCheaper 35 [.ref mx, .int v1, .int v2] [] (I, L, ab_RR, n, nc, ns) res)) ∧ (¬ v2 ≤ v1 → (ab_E w (d + 1) mt_M_isCheaper 31 [.ref mx, .int v1, .int v2] [] (I, L, ab_RR, n, nc, ns) res))))))))) : ab_E w (d + 1) mt_M_isCheaper 0 [.ref mx, .int v1, .int v2] [] (I, L, ab_RR, n, nc, ns) res := by
  refine ab_aload_n (i := 0) d_M_isCheaper_0 rfl rfl ?_
  refine ab_iload_n (i := 1) d_M_isCheaper_1 rfl rfl ?_
  obtain ⟨r1, hC, h⟩ := h
  refine ab_callV (me2 := mt_M_priceOf) (b := mx) (as := [.int v1]) (st := []) (rv := (some (.int r1))) (M2 := (I, L, ab_RR, n, nc, ns)) d_M_isCheaper_2 ce_M_priceOf v_1654 v_1656 v_83 (by decide) rfl (Nat.le_of_ble_eq_true rfl) hC (Nat.le_refl _) (Nat.le_refl _) hc hs (fun j h9 => by cases h9) (fun _ _ => rfl) ?_
  show ab_E w (d + 1) mt_M_isCheaper 5 [.ref mx, .int v1, .int v2] [.int r1] (I, L, ab_RR, n, nc, ns) res
  refine ab_aload_n (i := 0) d_M_isCheaper_5 rfl rfl ?_
  refine ab_iload_n (i := 2) d_M_isCheaper_6 rfl rfl ?_
  obtain ⟨r2, hC, h⟩ := h
  refine ab_callV (me2 := mt_M_priceOf) (b := mx) (as := [.int v2]) (st := [.int r1]) (rv := (some (.int r2))) (M2 := (I, L, ab_RR, n, nc, ns)) d_M_isCheaper_7 ce_M_priceOf v_1654 v_1656 v_83 (by decide) rfl (Nat.le_of_ble_eq_true rfl) hC (Nat.le_refl _) (Nat.le_refl _) hc hs (fun j h9 => by cases h9) (fun _ _ => rfl) ?_
  show ab_E w (d + 1) mt_M_isCheaper 10 [.ref mx, .int v1, .int v2] [.int r2, .int r1] (I, L, ab_RR, n, nc, ns) res
  refine ab_icmp_lt (tgt := 31) d_M_isCheaper_10 (by decide) (fun c3 => ?_) (fun c3 => ?_)
  · have h := h.1 c3
    exact h
  · have h := h.2 c3
    refine ab_aload_n (i := 0) d_M_isCheaper_13 rfl rfl ?_
    refine ab_iload_n (i := 1) d_M_isCheaper_14 rfl rfl ?_
    obtain ⟨r4, hC, h⟩ := h
    refine ab_callV (me2 := mt_M_priceOf) (b := mx) (as := [.int v1]) (st := []) (rv := (some (.int r4))) (M2 := (I, L, ab_RR, n, nc, ns)) d_M_isCheaper_15 ce_M_priceOf v_1654 v_1656 v_83 (by decide) rfl (Nat.le_of_ble_eq_true rfl) hC (Nat.le_refl _) (Nat.le_refl _) hc hs (fun j h9 => by cases h9) (fun _ _ => rfl) ?_
    show ab_E w (d + 1) mt_M_isCheaper 18 [.ref mx, .int v1, .int v2] [.int r4] (I, L, ab_RR, n, nc, ns) res
    refine ab_aload_n (i := 0) d_M_isCheaper_18 rfl rfl ?_
    refine ab_iload_n (i := 2) d_M_isCheaper_19 rfl rfl ?_
    obtain ⟨r5, hC, h⟩ := h
    refine ab_callV (me2 := mt_M_priceOf) (b := mx) (as := [.int v2]) (st := [.int r4]) (rv := (some (.int r5))) (M2 := (I, L, ab_RR, n, nc, ns)) d_M_isCheaper_20 ce_M_priceOf v_1654 v_1656 v_83 (by decide) rfl (Nat.le_of_ble_eq_true rfl) hC (Nat.le_refl _) (Nat.le_refl _) hc hs (fun j h9 => by cases h9) (fun _ _ => rfl) ?_
    show ab_E w (d + 1) mt_M_isCheaper 23 [.ref mx, .int v1, .int v2] [.int r5, .int r4] (I, L, ab_RR, n, nc, ns) res
    refine ab_icmp_ne (tgt := 35) d_M_isCheaper_23 (by decide) (fun c6 => ?_) (fun c6 => ?_)
    · have h := h.1 c6
      exact h
    · have h := h.2 c6
      refine ab_iload_n (i := 1) d_M_isCheaper_26 rfl rfl ?_
      refine ab_iload_n (i := 2) d_M_isCheaper_27 rfl rfl ?_
      refine ab_icmp_ge (tgt := 35) d_M_isCheaper_28 (by decide) (fun c7 => ?_) (fun c7 => ?_)
      · have h := h.1 c7
        exact h
      · have h := h.2 c7
        exact h
theorem q_M_isCheaper_31 {w : ab_Wd} {d n nc ns : Nat} {I : Nat → Nat → Int32} {L : Nat → Nat → Int64} {res : ab_Re} (v1 : Int32) (v2 : Int32) (hc : nc ≤ res.2.2.2.2.2.1) (hs : ns ≤ res.2.2.2.2.2.2)
    (h : ab_E w (d + 1) mt_M_isCheaper 36 [.ref mx, .int v1, .int v2] [.int 1] (I, L, ab_RR, n, nc, ns) res) : ab_E w (d + 1) mt_M_isCheaper 31 [.ref mx, .int v1, .int v2] [] (I, L, ab_RR, n, nc, ns) res := by
  refine ab_iconst (v := 1) d_M_isCheaper_31 rfl ?_
  refine ab_goto (tgt := 36) d_M_isCheaper_32 (by decide) ?_
  exact h
theorem q_M_isCheaper_35 {w : ab_Wd} {d n nc ns : Nat} {I : Nat → Nat → Int32} {L : Nat → Nat → Int64} {res : ab_Re} (v1 : Int32) (v2 : Int32) (hc : nc ≤ res.2.2.2.2.2.1) (hs : ns ≤ res.2.2.2.2.2.2)
    (h : ab_E w (d + 1) mt_M_isCheaper 36 [.ref mx, .int v1, .int v2] [.int 0] (I, L, ab_RR, n, nc, ns) res) : ab_E w (d + 1) mt_M_isCheaper 35 [.ref mx, .int v1, .int v2] [] (I, L, ab_RR, n, nc, ns) res := by
  refine ab_iconst (v := 0) d_M_isCheaper_35 rfl ?_
  exact h
theorem q_M_isCheaper_36 {w : ab_Wd} {d n nc ns : Nat} {I : Nat → Nat → Int32} {L : Nat → Nat → Int64} {res : ab_Re} (v1 : Int32) (v2 : Int32) (s0 : Int32) (hc : nc ≤ res.2.2.2.2.2.1) (hs : ns ≤ res.2.2.2.2.2.2)
    (h : (narrow .boolean (.int s0) = .int s0) ∧ res = (.inl (some (.int s0)), (I, L, ab_RR, n, nc, ns))) : ab_E w (d + 1) mt_M_isCheaper 36 [.ref mx, .int v1, .int v2] [.int s0] (I, L, ab_RR, n, nc, ns) res := by
  have g := h.1; have h := h.2
  exact ab_iret (ty := .boolean) d_M_isCheaper_36 rfl g h
theorem d_M_joins_0 : decode (ab_bc mt_M_joins) 0 = .ok (.aload_n 0, 1) := by decide +kernel
theorem d_M_joins_1 : decode (ab_bc mt_M_joins) 1 = .ok (.getfield 40, 3) := by decide +kernel
theorem d_M_joins_4 : decode (ab_bc mt_M_joins) 4 = .ok (.iload_n 1, 1) := by decide +kernel
theorem d_M_joins_5 : decode (ab_bc mt_M_joins) 5 = .ok (.iaload, 1) := by decide +kernel
theorem d_M_joins_6 : decode (ab_bc mt_M_joins) 6 = .ok (.aload_n 0, 1) := by decide +kernel
theorem d_M_joins_7 : decode (ab_bc mt_M_joins) 7 = .ok (.getfield 40, 3) := by decide +kernel
theorem d_M_joins_10 : decode (ab_bc mt_M_joins) 10 = .ok (.iload_n 2, 1) := by decide +kernel
theorem d_M_joins_11 : decode (ab_bc mt_M_joins) 11 = .ok (.iaload, 1) := by decide +kernel
theorem d_M_joins_12 : decode (ab_bc mt_M_joins) 12 = .ok (.invokestatic 141, 3) := by decide +kernel
theorem d_M_joins_15 : decode (ab_bc mt_M_joins) 15 = .ok (.istore_n 3, 1) := by decide +kernel
theorem d_M_joins_16 : decode (ab_bc mt_M_joins) 16 = .ok (.aload_n 0, 1) := by decide +kernel
theorem d_M_joins_17 : decode (ab_bc mt_M_joins) 17 = .ok (.getfield 40, 3) := by decide +kernel
theorem d_M_joins_20 : decode (ab_bc mt_M_joins) 20 = .ok (.iload_n 1, 1) := by decide +kernel
theorem d_M_joins_21 : decode (ab_bc mt_M_joins) 21 = .ok (.iaload, 1) := by decide +kernel
theorem d_M_joins_22 : decode (ab_bc mt_M_joins) 22 = .ok (.aload_n 0, 1) := by decide +kernel
theorem d_M_joins_23 : decode (ab_bc mt_M_joins) 23 = .ok (.getfield 40, 3) := by decide +kernel
theorem d_M_joins_26 : decode (ab_bc mt_M_joins) 26 = .ok (.iload_n 2, 1) := by decide +kernel
theorem d_M_joins_27 : decode (ab_bc mt_M_joins) 27 = .ok (.iaload, 1) := by decide +kernel
theorem d_M_joins_28 : decode (ab_bc mt_M_joins) 28 = .ok (.invokestatic 225, 3) := by decide +kernel
theorem d_M_joins_31 : decode (ab_bc mt_M_joins) 31 = .ok (.istore 4, 2) := by decide +kernel
theorem d_M_joins_33 : decode (ab_bc mt_M_joins) 33 = .ok (.iconst 0, 1) := by decide +kernel
theorem d_M_joins_34 : decode (ab_bc mt_M_joins) 34 = .ok (.istore 5, 2) := by decide +kernel
theorem d_M_joins_36 : decode (ab_bc mt_M_joins) 36 = .ok (.iload 5, 2) := by decide +kernel
theorem d_M_joins_38 : decode (ab_bc mt_M_joins) 38 = .ok (.aload_n 0, 1) := by decide +kernel
theorem d_M_joins_39 : decode (ab_bc mt_M_joins) 39 = .ok (.getfield 21, 3) := by decide +kernel
theorem d_M_joins_42 : decode (ab_bc mt_M_joins) 42 = .ok (.if_icmp .ge 29, 3) := by decide +kernel
theorem d_M_joins_45 : decode (ab_bc mt_M_joins) 45 = .ok (.aload_n 0, 1) := by decide +kernel
theorem d_M_joins_46 : decode (ab_bc mt_M_joins) 46 = .ok (.getfield 40, 3) := by decide +kernel
theorem d_M_joins_49 : decode (ab_bc mt_M_joins) 49 = .ok (.iload 5, 2) := by decide +kernel
theorem d_M_joins_51 : decode (ab_bc mt_M_joins) 51 = .ok (.iaload, 1) := by decide +kernel
theorem d_M_joins_52 : decode (ab_bc mt_M_joins) 52 = .ok (.iload 4, 2) := by decide +kernel
theorem d_M_joins_54 : decode (ab_bc mt_M_joins) 54 = .ok (.if_icmp .ne 11, 3) := by decide +kernel
theorem d_M_joins_57 : decode (ab_bc mt_M_joins) 57 = .ok (.aload_n 0, 1) := by decide +kernel
theorem d_M_joins_58 : decode (ab_bc mt_M_joins) 58 = .ok (.getfield 40, 3) := by decide +kernel
theorem d_M_joins_61 : decode (ab_bc mt_M_joins) 61 = .ok (.iload 5, 2) := by decide +kernel
theorem d_M_joins_63 : decode (ab_bc mt_M_joins) 63 = .ok (.iload_n 3, 1) := by decide +kernel
theorem d_M_joins_64 : decode (ab_bc mt_M_joins) 64 = .ok (.iastore, 1) := by decide +kernel
theorem d_M_joins_65 : decode (ab_bc mt_M_joins) 65 = .ok (.iinc 5 1, 3) := by decide +kernel
theorem d_M_joins_68 : decode (ab_bc mt_M_joins) 68 = .ok (.goto (-32), 3) := by decide +kernel
theorem d_M_joins_71 : decode (ab_bc mt_M_joins) 71 = .ok (.return_, 1) := by decide +kernel
-- CableKeeperModel.joins(II)V over mx
theorem q_M_joins_0 {w : ab_Wd} {d n nc ns : Nat} {I : Nat → Nat → Int32} {L : Nat → Nat → Int64} {res : ab_Re} (v1 : Int32) (v2 : Int32) (hc : nc ≤ res.2.2.2.2.2.1) (hs : ns ≤ res.2.2.2.2.2.2)
    (h : (vp_in v1 10) ∧ (vp_in v2 10) ∧ ab_E w (d + 1) mt_M_joins 36 [.ref mx, .int v1, .int v2, .int (ab_min32 (I mx_piece v1.toNatClampNeg) (I mx_piece v2.toNatClampNeg)), .int (ab_max32 (I mx_piece v1.toNatClampNeg) (I mx_piece v2.toNatClampNeg)), .int 0] [] (I, L, ab_RR, n, nc, ns) res) : ab_E w (d + 1) mt_M_joins 0 [.ref mx, .int v1, .int v2, .null, .null, .null] [] (I, L, ab_RR, n, nc, ns) res := by
  refine ab_aload_n (i := 0) d_M_joins_0 rfl rfl ?_
  refine ab_getR (ci := 11) (k := 19) (j := mx_piece) d_M_joins_1 v_1387 rfl (by decide) (by decide) rfl r_mx_19 ?_
  refine ab_iload_n (i := 1) d_M_joins_4 rfl rfl ?_
  have g1 := h.1; have h := h.2
  refine ab_iald d_M_joins_5 rfl rfl g1 ?_
  refine ab_aload_n (i := 0) d_M_joins_6 rfl rfl ?_
  refine ab_getR (ci := 11) (k := 19) (j := mx_piece) d_M_joins_7 v_1387 rfl (by decide) (by decide) rfl r_mx_19 ?_
  refine ab_iload_n (i := 2) d_M_joins_10 rfl rfl ?_
  have g2 := h.1; have h := h.2
  refine ab_iald d_M_joins_11 rfl rfl g2 ?_
  refine ab_min d_M_joins_12 v_1581 v_448 v_150 v_449 (Nat.succ_le_succ (Nat.zero_le _)) (Nat.le_of_ble_eq_true rfl) hc hs ?_
  refine ab_istore_n (i := 3) d_M_joins_15 rfl (by decide) (Or.inr rfl) ?_
  refine ab_aload_n (i := 0) d_M_joins_16 rfl rfl ?_
  refine ab_getR (ci := 11) (k := 19) (j := mx_piece) d_M_joins_17 v_1387 rfl (by decide) (by decide) rfl r_mx_19 ?_
  refine ab_iload_n (i := 1) d_M_joins_20 rfl rfl ?_
  refine ab_iald d_M_joins_21 rfl rfl g1 ?_
  refine ab_aload_n (i := 0) d_M_joins_22 rfl rfl ?_
  refine ab_getR (ci := 11) (k := 19) (j := mx_piece) d_M_joins_23 v_1387 rfl (by decide) (by decide) rfl r_mx_19 ?_
  refine ab_iload_n (i := 2) d_M_joins_26 rfl rfl ?_
  refine ab_iald d_M_joins_27 rfl rfl g2 ?_
  refine ab_max d_M_joins_28 v_1662 v_451 v_150 v_452 (Nat.succ_le_succ (Nat.zero_le _)) (Nat.le_of_ble_eq_true rfl) hc hs ?_
  refine ab_istore (i := 4) d_M_joins_31 (by decide) (Or.inr rfl) ?_
  refine ab_iconst (v := 0) d_M_joins_33 rfl ?_
  refine ab_istore (i := 5) d_M_joins_34 (by decide) (Or.inr rfl) ?_
  exact h
theorem q_M_joins_36 {w : ab_Wd} {d n nc ns : Nat} {I : Nat → Nat → Int32} {L : Nat → Nat → Int64} {res : ab_Re} (v1 : Int32) (v2 : Int32) (v3 : Int32) (v4 : Int32) (v5 : Int32) (hc : nc ≤ res.2.2.2.2.2.1) (hs : ns ≤ res.2.2.2.2.2.2)
    (h : (((I mx 2) ≤ v5 → (res = (.inl none, (I, L, ab_RR, n, nc, ns)))) ∧ (¬ (I mx 2) ≤ v5 → ((vp_in v5 10) ∧ ((¬ (I mx_piece v5.toNatClampNeg) = v4 → (ab_E w (d + 1) mt_M_joins 65 [.ref mx, .int v1, .int v2, .int v3, .int v4, .int v5] [] (I, L, ab_RR, n, nc, ns) res)) ∧ ((I mx_piece v5.toNatClampNeg) = v4 → (ab_E w (d + 1) mt_M_joins 65 [.ref mx, .int v1, .int v2, .int v3, .int v4, .int v5] [] ((ab_up I mx_piece v5.toNatClampNeg v3), L, ab_RR, n, nc, ns) res))))))) : ab_E w (d + 1) mt_M_joins 36 [.ref mx, .int v1, .int v2, .int v3, .int v4, .int v5] [] (I, L, ab_RR, n, nc, ns) res := by
  refine ab_iload (i := 5) d_M_joins_36 rfl ?_
  refine ab_aload_n (i := 0) d_M_joins_38 rfl rfl ?_
  refine ab_getI (ci := 11) (k := 2) d_M_joins_39 v_1370 rfl (by decide) (by decide) rfl ?_
  refine ab_icmp_ge (tgt := 71) d_M_joins_42 (by decide) (fun c1 => ?_) (fun c1 => ?_)
  · have h := h.1 c1
    exact ab_vret d_M_joins_71 rfl h
  · have h := h.2 c1
    refine ab_aload_n (i := 0) d_M_joins_45 rfl rfl ?_
    refine ab_getR (ci := 11) (k := 19) (j := mx_piece) d_M_joins_46 v_1387 rfl (by decide) (by decide) rfl r_mx_19 ?_
    refine ab_iload (i := 5) d_M_joins_49 rfl ?_
    have g2 := h.1; have h := h.2
    refine ab_iald d_M_joins_51 rfl rfl g2 ?_
    refine ab_iload (i := 4) d_M_joins_52 rfl ?_
    refine ab_icmp_ne (tgt := 65) d_M_joins_54 (by decide) (fun c3 => ?_) (fun c3 => ?_)
    · have h := h.1 c3
      exact h
    · have h := h.2 c3
      refine ab_aload_n (i := 0) d_M_joins_57 rfl rfl ?_
      refine ab_getR (ci := 11) (k := 19) (j := mx_piece) d_M_joins_58 v_1387 rfl (by decide) (by decide) rfl r_mx_19 ?_
      refine ab_iload (i := 5) d_M_joins_61 rfl ?_
      refine ab_iload_n (i := 3) d_M_joins_63 rfl rfl ?_
      refine ab_iast d_M_joins_64 rfl rfl g2 ?_
      exact h
theorem q_M_joins_65 {w : ab_Wd} {d n nc ns : Nat} {I : Nat → Nat → Int32} {L : Nat → Nat → Int64} {res : ab_Re} (v1 : Int32) (v2 : Int32) (v3 : Int32) (v4 : Int32) (v5 : Int32) (hc : nc ≤ res.2.2.2.2.2.1) (hs : ns ≤ res.2.2.2.2.2.2)
    (h : ab_E w (d + 1) mt_M_joins 36 [.ref mx, .int v1, .int v2, .int v3, .int v4, .int (v5 + 1)] [] (I, L, ab_RR, n, nc, ns) res) : ab_E w (d + 1) mt_M_joins 65 [.ref mx, .int v1, .int v2, .int v3, .int v4, .int v5] [] (I, L, ab_RR, n, nc, ns) res := by
  refine ab_iinc (i := 5) (v := (v5 + 1)) d_M_joins_65 rfl rfl (by decide) (Or.inr rfl) ?_
  refine ab_goto (tgt := 36) d_M_joins_68 (by decide) ?_
  exact h
theorem d_M_netOf_0 : decode (ab_bc mt_M_netOf) 0 = .ok (.iload_n 1, 1) := by decide +kernel
theorem d_M_netOf_1 : decode (ab_bc mt_M_netOf) 1 = .ok (.istore_n 2, 1) := by decide +kernel
theorem d_M_netOf_2 : decode (ab_bc mt_M_netOf) 2 = .ok (.iconst 0, 1) := by decide +kernel
theorem d_M_netOf_3 : decode (ab_bc mt_M_netOf) 3 = .ok (.istore_n 3, 1) := by decide +kernel
theorem d_M_netOf_4 : decode (ab_bc mt_M_netOf) 4 = .ok (.aload_n 0, 1) := by decide +kernel
theorem d_M_netOf_5 : decode (ab_bc mt_M_netOf) 5 = .ok (.iconst 0, 1) := by decide +kernel
theorem d_M_netOf_6 : decode (ab_bc mt_M_netOf) 6 = .ok (.putfield 228, 3) := by decide +kernel
theorem d_M_netOf_9 : decode (ab_bc mt_M_netOf) 9 = .ok (.aload_n 0, 1) := by decide +kernel
theorem d_M_netOf_10 : decode (ab_bc mt_M_netOf) 10 = .ok (.iconst 0, 1) := by decide +kernel
theorem d_M_netOf_11 : decode (ab_bc mt_M_netOf) 11 = .ok (.putfield 231, 3) := by decide +kernel
theorem d_M_netOf_14 : decode (ab_bc mt_M_netOf) 14 = .ok (.iconst 0, 1) := by decide +kernel
theorem d_M_netOf_15 : decode (ab_bc mt_M_netOf) 15 = .ok (.istore 4, 2) := by decide +kernel
theorem d_M_netOf_17 : decode (ab_bc mt_M_netOf) 17 = .ok (.iload 4, 2) := by decide +kernel
theorem d_M_netOf_19 : decode (ab_bc mt_M_netOf) 19 = .ok (.aload_n 0, 1) := by decide +kernel
theorem d_M_netOf_20 : decode (ab_bc mt_M_netOf) 20 = .ok (.getfield 21, 3) := by decide +kernel
theorem d_M_netOf_23 : decode (ab_bc mt_M_netOf) 23 = .ok (.if_icmp .ge 18, 3) := by decide +kernel
theorem d_M_netOf_26 : decode (ab_bc mt_M_netOf) 26 = .ok (.aload_n 0, 1) := by decide +kernel
theorem d_M_netOf_27 : decode (ab_bc mt_M_netOf) 27 = .ok (.getfield 40, 3) := by decide +kernel
theorem d_M_netOf_30 : decode (ab_bc mt_M_netOf) 30 = .ok (.iload 4, 2) := by decide +kernel
theorem d_M_netOf_32 : decode (ab_bc mt_M_netOf) 32 = .ok (.iload 4, 2) := by decide +kernel
theorem d_M_netOf_34 : decode (ab_bc mt_M_netOf) 34 = .ok (.iastore, 1) := by decide +kernel
theorem d_M_netOf_35 : decode (ab_bc mt_M_netOf) 35 = .ok (.iinc 4 1, 3) := by decide +kernel
theorem d_M_netOf_38 : decode (ab_bc mt_M_netOf) 38 = .ok (.goto (-21), 3) := by decide +kernel
theorem d_M_netOf_41 : decode (ab_bc mt_M_netOf) 41 = .ok (.iload_n 2, 1) := by decide +kernel
theorem d_M_netOf_42 : decode (ab_bc mt_M_netOf) 42 = .ok (.ifCond .eq 167, 3) := by decide +kernel
theorem d_M_netOf_45 : decode (ab_bc mt_M_netOf) 45 = .ok (.iconst (-1), 1) := by decide +kernel
theorem d_M_netOf_46 : decode (ab_bc mt_M_netOf) 46 = .ok (.istore 4, 2) := by decide +kernel
theorem d_M_netOf_48 : decode (ab_bc mt_M_netOf) 48 = .ok (.iconst 0, 1) := by decide +kernel
theorem d_M_netOf_49 : decode (ab_bc mt_M_netOf) 49 = .ok (.istore 5, 2) := by decide +kernel
theorem d_M_netOf_51 : decode (ab_bc mt_M_netOf) 51 = .ok (.iload 5, 2) := by decide +kernel
theorem d_M_netOf_53 : decode (ab_bc mt_M_netOf) 53 = .ok (.aload_n 0, 1) := by decide +kernel
theorem d_M_netOf_54 : decode (ab_bc mt_M_netOf) 54 = .ok (.invokevirtual 234, 3) := by decide +kernel
theorem d_M_netOf_57 : decode (ab_bc mt_M_netOf) 57 = .ok (.if_icmp .ge 39, 3) := by decide +kernel
theorem d_M_netOf_60 : decode (ab_bc mt_M_netOf) 60 = .ok (.iload_n 2, 1) := by decide +kernel
theorem d_M_netOf_61 : decode (ab_bc mt_M_netOf) 61 = .ok (.iload 5, 2) := by decide +kernel
theorem d_M_netOf_63 : decode (ab_bc mt_M_netOf) 63 = .ok (.invokestatic 237, 3) := by decide +kernel
theorem d_M_netOf_66 : decode (ab_bc mt_M_netOf) 66 = .ok (.ifCond .eq 24, 3) := by decide +kernel
theorem d_M_netOf_69 : decode (ab_bc mt_M_netOf) 69 = .ok (.iload 4, 2) := by decide +kernel
theorem d_M_netOf_71 : decode (ab_bc mt_M_netOf) 71 = .ok (.iconst (-1), 1) := by decide +kernel
theorem d_M_netOf_72 : decode (ab_bc mt_M_netOf) 72 = .ok (.if_icmp .eq 14, 3) := by decide +kernel
theorem d_M_netOf_75 : decode (ab_bc mt_M_netOf) 75 = .ok (.aload_n 0, 1) := by decide +kernel
theorem d_M_netOf_76 : decode (ab_bc mt_M_netOf) 76 = .ok (.iload 5, 2) := by decide +kernel
theorem d_M_netOf_78 : decode (ab_bc mt_M_netOf) 78 = .ok (.iload 4, 2) := by decide +kernel
theorem d_M_netOf_80 : decode (ab_bc mt_M_netOf) 80 = .ok (.invokevirtual 241, 3) := by decide +kernel
theorem d_M_netOf_83 : decode (ab_bc mt_M_netOf) 83 = .ok (.ifCond .eq 7, 3) := by decide +kernel
theorem d_M_netOf_86 : decode (ab_bc mt_M_netOf) 86 = .ok (.iload 5, 2) := by decide +kernel
theorem d_M_netOf_88 : decode (ab_bc mt_M_netOf) 88 = .ok (.istore 4, 2) := by decide +kernel
theorem d_M_netOf_90 : decode (ab_bc mt_M_netOf) 90 = .ok (.iinc 5 1, 3) := by decide +kernel
theorem d_M_netOf_93 : decode (ab_bc mt_M_netOf) 93 = .ok (.goto (-42), 3) := by decide +kernel
theorem d_M_netOf_96 : decode (ab_bc mt_M_netOf) 96 = .ok (.iload_n 2, 1) := by decide +kernel
theorem d_M_netOf_97 : decode (ab_bc mt_M_netOf) 97 = .ok (.iconst 1, 1) := by decide +kernel
theorem d_M_netOf_98 : decode (ab_bc mt_M_netOf) 98 = .ok (.iload 4, 2) := by decide +kernel
theorem d_M_netOf_100 : decode (ab_bc mt_M_netOf) 100 = .ok (.ishl, 1) := by decide +kernel
theorem d_M_netOf_101 : decode (ab_bc mt_M_netOf) 101 = .ok (.iconst (-1), 1) := by decide +kernel
theorem d_M_netOf_102 : decode (ab_bc mt_M_netOf) 102 = .ok (.ixor, 1) := by decide +kernel
theorem d_M_netOf_103 : decode (ab_bc mt_M_netOf) 103 = .ok (.iand, 1) := by decide +kernel
theorem d_M_netOf_104 : decode (ab_bc mt_M_netOf) 104 = .ok (.istore_n 2, 1) := by decide +kernel
theorem d_M_netOf_105 : decode (ab_bc mt_M_netOf) 105 = .ok (.aload_n 0, 1) := by decide +kernel
theorem d_M_netOf_106 : decode (ab_bc mt_M_netOf) 106 = .ok (.getfield 40, 3) := by decide +kernel
theorem d_M_netOf_109 : decode (ab_bc mt_M_netOf) 109 = .ok (.aload_n 0, 1) := by decide +kernel
theorem d_M_netOf_110 : decode (ab_bc mt_M_netOf) 110 = .ok (.getfield 24, 3) := by decide +kernel
theorem d_M_netOf_113 : decode (ab_bc mt_M_netOf) 113 = .ok (.iconst 3, 1) := by decide +kernel
theorem d_M_netOf_114 : decode (ab_bc mt_M_netOf) 114 = .ok (.iload 4, 2) := by decide +kernel
theorem d_M_netOf_116 : decode (ab_bc mt_M_netOf) 116 = .ok (.iadd, 1) := by decide +kernel
theorem d_M_netOf_117 : decode (ab_bc mt_M_netOf) 117 = .ok (.iaload, 1) := by decide +kernel
theorem d_M_netOf_118 : decode (ab_bc mt_M_netOf) 118 = .ok (.iaload, 1) := by decide +kernel
theorem d_M_netOf_119 : decode (ab_bc mt_M_netOf) 119 = .ok (.aload_n 0, 1) := by decide +kernel
theorem d_M_netOf_120 : decode (ab_bc mt_M_netOf) 120 = .ok (.getfield 40, 3) := by decide +kernel
theorem d_M_netOf_123 : decode (ab_bc mt_M_netOf) 123 = .ok (.aload_n 0, 1) := by decide +kernel
theorem d_M_netOf_124 : decode (ab_bc mt_M_netOf) 124 = .ok (.getfield 24, 3) := by decide +kernel
theorem d_M_netOf_127 : decode (ab_bc mt_M_netOf) 127 = .ok (.bipush 27, 2) := by decide +kernel
theorem d_M_netOf_129 : decode (ab_bc mt_M_netOf) 129 = .ok (.iload 4, 2) := by decide +kernel
theorem d_M_netOf_131 : decode (ab_bc mt_M_netOf) 131 = .ok (.iadd, 1) := by decide +kernel
theorem d_M_netOf_132 : decode (ab_bc mt_M_netOf) 132 = .ok (.iaload, 1) := by decide +kernel
theorem d_M_netOf_133 : decode (ab_bc mt_M_netOf) 133 = .ok (.iaload, 1) := by decide +kernel
theorem d_M_netOf_134 : decode (ab_bc mt_M_netOf) 134 = .ok (.if_icmp .ne 6, 3) := by decide +kernel
theorem d_M_netOf_137 : decode (ab_bc mt_M_netOf) 137 = .ok (.goto (-96), 3) := by decide +kernel
theorem d_M_netOf_140 : decode (ab_bc mt_M_netOf) 140 = .ok (.aload_n 0, 1) := by decide +kernel
theorem d_M_netOf_141 : decode (ab_bc mt_M_netOf) 141 = .ok (.aload_n 0, 1) := by decide +kernel
theorem d_M_netOf_142 : decode (ab_bc mt_M_netOf) 142 = .ok (.getfield 24, 3) := by decide +kernel
theorem d_M_netOf_145 : decode (ab_bc mt_M_netOf) 145 = .ok (.iconst 3, 1) := by decide +kernel
theorem d_M_netOf_146 : decode (ab_bc mt_M_netOf) 146 = .ok (.iload 4, 2) := by decide +kernel
theorem d_M_netOf_148 : decode (ab_bc mt_M_netOf) 148 = .ok (.iadd, 1) := by decide +kernel
theorem d_M_netOf_149 : decode (ab_bc mt_M_netOf) 149 = .ok (.iaload, 1) := by decide +kernel
theorem d_M_netOf_150 : decode (ab_bc mt_M_netOf) 150 = .ok (.aload_n 0, 1) := by decide +kernel
theorem d_M_netOf_151 : decode (ab_bc mt_M_netOf) 151 = .ok (.getfield 24, 3) := by decide +kernel
theorem d_M_netOf_154 : decode (ab_bc mt_M_netOf) 154 = .ok (.bipush 27, 2) := by decide +kernel
theorem d_M_netOf_156 : decode (ab_bc mt_M_netOf) 156 = .ok (.iload 4, 2) := by decide +kernel
theorem d_M_netOf_158 : decode (ab_bc mt_M_netOf) 158 = .ok (.iadd, 1) := by decide +kernel
theorem d_M_netOf_159 : decode (ab_bc mt_M_netOf) 159 = .ok (.iaload, 1) := by decide +kernel
theorem d_M_netOf_160 : decode (ab_bc mt_M_netOf) 160 = .ok (.invokevirtual 244, 3) := by decide +kernel
theorem d_M_netOf_163 : decode (ab_bc mt_M_netOf) 163 = .ok (.iload_n 3, 1) := by decide +kernel
theorem d_M_netOf_164 : decode (ab_bc mt_M_netOf) 164 = .ok (.iconst 1, 1) := by decide +kernel
theorem d_M_netOf_165 : decode (ab_bc mt_M_netOf) 165 = .ok (.iload 4, 2) := by decide +kernel
theorem d_M_netOf_167 : decode (ab_bc mt_M_netOf) 167 = .ok (.ishl, 1) := by decide +kernel
theorem d_M_netOf_168 : decode (ab_bc mt_M_netOf) 168 = .ok (.ior, 1) := by decide +kernel
theorem d_M_netOf_169 : decode (ab_bc mt_M_netOf) 169 = .ok (.istore_n 3, 1) := by decide +kernel
theorem d_M_netOf_170 : decode (ab_bc mt_M_netOf) 170 = .ok (.aload_n 0, 1) := by decide +kernel
theorem d_M_netOf_171 : decode (ab_bc mt_M_netOf) 171 = .ok (.getfield 43, 3) := by decide +kernel
theorem d_M_netOf_174 : decode (ab_bc mt_M_netOf) 174 = .ok (.aload_n 0, 1) := by decide +kernel
theorem d_M_netOf_175 : decode (ab_bc mt_M_netOf) 175 = .ok (.getfield 228, 3) := by decide +kernel
theorem d_M_netOf_178 : decode (ab_bc mt_M_netOf) 178 = .ok (.iload 4, 2) := by decide +kernel
theorem d_M_netOf_180 : decode (ab_bc mt_M_netOf) 180 = .ok (.iastore, 1) := by decide +kernel
theorem d_M_netOf_181 : decode (ab_bc mt_M_netOf) 181 = .ok (.aload_n 0, 1) := by decide +kernel
theorem d_M_netOf_182 : decode (ab_bc mt_M_netOf) 182 = .ok (.dup, 1) := by decide +kernel
theorem d_M_netOf_183 : decode (ab_bc mt_M_netOf) 183 = .ok (.getfield 228, 3) := by decide +kernel
theorem d_M_netOf_186 : decode (ab_bc mt_M_netOf) 186 = .ok (.iconst 1, 1) := by decide +kernel
theorem d_M_netOf_187 : decode (ab_bc mt_M_netOf) 187 = .ok (.iadd, 1) := by decide +kernel
theorem d_M_netOf_188 : decode (ab_bc mt_M_netOf) 188 = .ok (.putfield 228, 3) := by decide +kernel
theorem d_M_netOf_191 : decode (ab_bc mt_M_netOf) 191 = .ok (.aload_n 0, 1) := by decide +kernel
theorem d_M_netOf_192 : decode (ab_bc mt_M_netOf) 192 = .ok (.dup, 1) := by decide +kernel
theorem d_M_netOf_193 : decode (ab_bc mt_M_netOf) 193 = .ok (.getfield 231, 3) := by decide +kernel
theorem d_M_netOf_196 : decode (ab_bc mt_M_netOf) 196 = .ok (.aload_n 0, 1) := by decide +kernel
theorem d_M_netOf_197 : decode (ab_bc mt_M_netOf) 197 = .ok (.iload 4, 2) := by decide +kernel
theorem d_M_netOf_199 : decode (ab_bc mt_M_netOf) 199 = .ok (.invokevirtual 222, 3) := by decide +kernel
theorem d_M_netOf_202 : decode (ab_bc mt_M_netOf) 202 = .ok (.iadd, 1) := by decide +kernel
theorem d_M_netOf_203 : decode (ab_bc mt_M_netOf) 203 = .ok (.putfield 231, 3) := by decide +kernel
theorem d_M_netOf_206 : decode (ab_bc mt_M_netOf) 206 = .ok (.goto (-165), 3) := by decide +kernel
theorem d_M_netOf_209 : decode (ab_bc mt_M_netOf) 209 = .ok (.iload_n 3, 1) := by decide +kernel
theorem d_M_netOf_210 : decode (ab_bc mt_M_netOf) 210 = .ok (.ireturn, 1) := by decide +kernel
-- CableKeeperModel.netOf(I)I over mx
theorem q_M_netOf_0 {w : ab_Wd} {d n nc ns : Nat} {I : Nat → Nat → Int32} {L : Nat → Nat → Int64} {res : ab_Re} (v1 : Int32) (hc : nc ≤ res.2.2.2.2.2.1) (hs : ns ≤ res.2.2.2.2.2.2)
    (h : ab_E w (d + 1) mt_M_netOf 17 [.ref mx, .int v1, .int v1, .int 0, .int 0, .null] [] ((ab_up (ab_up I mx 21 0) mx 22 0), L, ab_RR, n, nc, ns) res) : ab_E w (d + 1) mt_M_netOf 0 [.ref mx, .int v1, .null, .null, .null, .null] [] (I, L, ab_RR, n, nc, ns) res := by
  refine ab_iload_n (i := 1) d_M_netOf_0 rfl rfl ?_
  refine ab_istore_n (i := 2) d_M_netOf_1 rfl (by decide) (Or.inr rfl) ?_
  refine ab_iconst (v := 0) d_M_netOf_2 rfl ?_
  refine ab_istore_n (i := 3) d_M_netOf_3 rfl (by decide) (Or.inr rfl) ?_
  refine ab_aload_n (i := 0) d_M_netOf_4 rfl rfl ?_
  refine ab_iconst (v := 0) d_M_netOf_5 rfl ?_
  refine ab_putI (ci := 11) (k := 21) d_M_netOf_6 v_1389 rfl (by decide) (by decide) rfl (Or.inl rfl) rfl rfl ?_
  refine ab_aload_n (i := 0) d_M_netOf_9 rfl rfl ?_
  refine ab_iconst (v := 0) d_M_netOf_10 rfl ?_
  refine ab_putI (ci := 11) (k := 22) d_M_netOf_11 v_1390 rfl (by decide) (by decide) rfl (Or.inl rfl) rfl rfl ?_
  refine ab_iconst (v := 0) d_M_netOf_14 rfl ?_
  refine ab_istore (i := 4) d_M_netOf_15 (by decide) (Or.inr rfl) ?_
  exact h
theorem q_M_netOf_17 {w : ab_Wd} {d n nc ns : Nat} {I : Nat → Nat → Int32} {L : Nat → Nat → Int64} {res : ab_Re} (v1 : Int32) (v2 : Int32) (v3 : Int32) (v4 : Int32) (hc : nc ≤ res.2.2.2.2.2.1) (hs : ns ≤ res.2.2.2.2.2.2)
    (h : (((I mx 2) ≤ v4 → (ab_E w (d + 1) mt_M_netOf 41 [.ref mx, .int v1, .int v2, .int v3, .int v4, .null] [] (I, L, ab_RR, n, nc, ns) res)) ∧ (¬ (I mx 2) ≤ v4 → ((vp_in v4 10) ∧ ab_E w (d + 1) mt_M_netOf 17 [.ref mx, .int v1, .int v2, .int v3, .int (v4 + 1), .null] [] ((ab_up I mx_piece v4.toNatClampNeg v4), L, ab_RR, n, nc, ns) res)))) : ab_E w (d + 1) mt_M_netOf 17 [.ref mx, .int v1, .int v2, .int v3, .int v4, .null] [] (I, L, ab_RR, n, nc, ns) res := by
  refine ab_iload (i := 4) d_M_netOf_17 rfl ?_
  refine ab_aload_n (i := 0) d_M_netOf_19 rfl rfl ?_
  refine ab_getI (ci := 11) (k := 2) d_M_netOf_20 v_1370 rfl (by decide) (by decide) rfl ?_
  refine ab_icmp_ge (tgt := 41) d_M_netOf_23 (by decide) (fun c1 => ?_) (fun c1 => ?_)
  · have h := h.1 c1
    exact h
  · have h := h.2 c1
    refine ab_aload_n (i := 0) d_M_netOf_26 rfl rfl ?_
    refine ab_getR (ci := 11) (k := 19) (j := mx_piece) d_M_netOf_27 v_1387 rfl (by decide) (by decide) rfl r_mx_19 ?_
    refine ab_iload (i := 4) d_M_netOf_30 rfl ?_
    refine ab_iload (i := 4) d_M_netOf_32 rfl ?_
    have g2 := h.1; have h := h.2
    refine ab_iast d_M_netOf_34 rfl rfl g2 ?_
    refine ab_iinc (i := 4) (v := (v4 + 1)) d_M_netOf_35 rfl rfl (by decide) (Or.inr rfl) ?_
    refine ab_goto (tgt := 17) d_M_netOf_38 (by decide) ?_
    exact h
theorem q_M_netOf_41 {w : ab_Wd} {d n nc ns : Nat} {I : Nat → Nat → Int32} {L : Nat → Nat → Int64} {res : ab_Re} (v1 : Int32) (v2 : Int32) (v3 : Int32) (v4 : Int32) (hc : nc ≤ res.2.2.2.2.2.1) (hs : ns ≤ res.2.2.2.2.2.2)
    (h : ((v2 = 0 → (res = (.inl (some (.int v3)), (I, L, ab_RR, n, nc, ns)))) ∧ (¬ v2 = 0 → (ab_E w (d + 1) mt_M_netOf 51 [.ref mx, .int v1, .int v2, .int v3, .int (-1), .int 0] [] (I, L, ab_RR, n, nc, ns) res)))) : ab_E w (d + 1) mt_M_netOf 41 [.ref mx, .int v1, .int v2, .int v3, .int v4, .null] [] (I, L, ab_RR, n, nc, ns) res := by
  refine ab_iload_n (i := 2) d_M_netOf_41 rfl rfl ?_
  refine ab_if_eq (tgt := 209) d_M_netOf_42 (by decide) (fun c1 => ?_) (fun c1 => ?_)
  · have h := h.1 c1
    refine ab_iload_n (i := 3) d_M_netOf_209 rfl rfl ?_
    exact ab_iret (ty := .int) d_M_netOf_210 rfl rfl h
  · have h := h.2 c1
    refine ab_iconst (v := (-1)) d_M_netOf_45 rfl ?_
    refine ab_istore (i := 4) d_M_netOf_46 (by decide) (Or.inr rfl) ?_
    refine ab_iconst (v := 0) d_M_netOf_48 rfl ?_
    refine ab_istore (i := 5) d_M_netOf_49 (by decide) (Or.inr rfl) ?_
    exact h
theorem q_M_netOf_51 {w : ab_Wd} {d n nc ns : Nat} {I : Nat → Nat → Int32} {L : Nat → Nat → Int64} {res : ab_Re} (v1 : Int32) (v2 : Int32) (v3 : Int32) (v4 : Int32) (v5 : Int32) (hc : nc ≤ res.2.2.2.2.2.1) (hs : ns ≤ res.2.2.2.2.2.2)
    (h : ∃ (r1 : Int32), ab_C w d mt_M_many [.ref mx] (I, L, ab_RR, n, nc, ns) (.inl (some (.int r1)), (I, L, ab_RR, n, nc, ns)) ∧ ((r1 ≤ v5 → ((vp_in (3 + v4) 399) ∧ (vp_in (I mx_now (3 + v4).toNatClampNeg) 10) ∧ (vp_in (27 + v4) 399) ∧ (vp_in (I mx_now (27 + v4).toNatClampNeg) 10) ∧ ((¬ (I mx_piece (I mx_now (3 + v4).toNatClampNeg).toNatClampNeg) = (I mx_piece (I mx_now (27 + v4).toNatClampNeg).toNatClampNeg) → (∃ (I9 : Nat → Nat → Int32), ab_C w d mt_M_joins [.ref mx, .int (I mx_now (3 + v4).toNatClampNeg), .int (I mx_now (27 + v4).toNatClampNeg)] (I, L, ab_RR, n, nc, ns) (.inl none, (I9, L, ab_RR, n, nc, ns)) ∧ (vp_in (I9 mx 21) 24) ∧ ∃ (r11 : Int32), ab_C w d mt_M_priceOf [.ref mx, .int v4] ((ab_up (ab_up I9 mx_taken (I9 mx 21).toNatClampNeg v4) mx 21 ((I9 mx 21) + 1)), L, ab_RR, n, nc, ns) (.inl (some (.int r11)), ((ab_up (ab_up I9 mx_taken (I9 mx 21).toNatClampNeg v4) mx 21 ((I9 mx 21) + 1)), L, ab_RR, n, nc, ns)) ∧ ab_E w (d + 1) mt_M_netOf 41 [.ref mx, .int v1, .int (v2 &&& (((1 : Int32) <<< (v4 &&& 31)) ^^^ (-1))), .int (v3 ||| ((1 : Int32) <<< (v4 &&& 31))), .int v4, .null] [] ((ab_up (ab_up (ab_up I9 mx_taken (I9 mx 21).toNatClampNeg v4) mx 21 ((I9 mx 21) + 1)) mx 22 ((I9 mx 22) + r11)), L, ab_RR, n, nc, ns) res)) ∧ ((I mx_piece (I mx_now (3 + v4).toNatClampNeg).toNatClampNeg) = (I mx_piece (I mx_now (27 + v4).toNatClampNeg).toNatClampNeg) → (ab_E w (d + 1) mt_M_netOf 41 [.ref mx, .int v1, .int (v2 &&& (((1 : Int32) <<< (v4 &&& 31)) ^^^ (-1))), .int v3, .int v4, .null] [] (I, L, ab_RR, n, nc, ns) res))))) ∧ (¬ r1 ≤ v5 → (∃ (r12 : Int32), ab_C w d mt_M_has [.int v2, .int v5] (I, L, ab_RR, n, nc, ns) (.inl (some (.int r12)), (I, L, ab_RR, n, nc, ns)) ∧ ((r12 = 0 → (ab_E w (d + 1) mt_M_netOf 90 [.ref mx, .int v1, .int v2, .int v3, .int v4, .int v5] [] (I, L, ab_RR, n, nc, ns) res)) ∧ (¬ r12 = 0 → ((v4 = (-1) → (ab_E w (d + 1) mt_M_netOf 86 [.ref mx, .int v1, .int v2, .int v3, .int v4, .int v5] [] (I, L, ab_RR, n, nc, ns) res)) ∧ (¬ v4 = (-1) → (∃ (r15 : Int32), ab_C w d mt_M_isCheaper [.ref mx, .int v5, .int v4] (I, L, ab_RR, n, nc, ns) (.inl (some (.int r15)), (I, L, ab_RR, n, nc, ns)) ∧ ((r15 = 0 → (ab_E w (d + 1) mt_M_netOf 90 [.ref mx, .int v1, .int v2, .int v3, .int v4, .int v5] [] (I, L, ab_RR, n, nc, ns) res)) ∧ (¬ r15 = 0 → (ab_E w (d + 1) mt_M_netOf 86 [.ref mx, .int v1, .int v2, .int v3, .int v4, .int v5] [] (I, L, ab_RR, n, nc, ns) res)))))))))))) : ab_E w (d + 1) mt_M_netOf 51 [.ref mx, .int v1, .int v2, .int v3, .int v4, .int v5] [] (I, L, ab_RR, n, nc, ns) res := by
  refine ab_iload (i := 5) d_M_netOf_51 rfl ?_
  refine ab_aload_n (i := 0) d_M_netOf_53 rfl rfl ?_
  obtain ⟨r1, hC, h⟩ := h
  refine ab_callV (me2 := mt_M_many) (b := mx) (as := []) (st := [.int v5]) (rv := (some (.int r1))) (M2 := (I, L, ab_RR, n, nc, ns)) d_M_netOf_54 ce_M_many v_1635 v_1637 v_79 (by decide) rfl (Nat.le_of_ble_eq_true rfl) hC (Nat.le_refl _) (Nat.le_refl _) hc hs (fun j h9 => by cases h9) (fun _ _ => rfl) ?_
  show ab_E w (d + 1) mt_M_netOf 57 [.ref mx, .int v1, .int v2, .int v3, .int v4, .int v5] [.int r1, .int v5] (I, L, ab_RR, n, nc, ns) res
  refine ab_icmp_ge (tgt := 96) d_M_netOf_57 (by decide) (fun c2 => ?_) (fun c2 => ?_)
  · have h := h.1 c2
    refine ab_iload_n (i := 2) d_M_netOf_96 rfl rfl ?_
    refine ab_iconst (v := 1) d_M_netOf_97 rfl ?_
    refine ab_iload (i := 4) d_M_netOf_98 rfl ?_
    refine ab_ishl d_M_netOf_100 ?_
    refine ab_iconst (v := (-1)) d_M_netOf_101 rfl ?_
    refine ab_ixor d_M_netOf_102 ?_
    refine ab_iand d_M_netOf_103 ?_
    refine ab_istore_n (i := 2) d_M_netOf_104 rfl (by decide) (Or.inr rfl) ?_
    refine ab_aload_n (i := 0) d_M_netOf_105 rfl rfl ?_
    refine ab_getR (ci := 11) (k := 19) (j := mx_piece) d_M_netOf_106 v_1387 rfl (by decide) (by decide) rfl r_mx_19 ?_
    refine ab_aload_n (i := 0) d_M_netOf_109 rfl rfl ?_
    refine ab_getR (ci := 11) (k := 4) (j := mx_now) d_M_netOf_110 v_1372 rfl (by decide) (by decide) rfl r_mx_4 ?_
    refine ab_iconst (v := 3) d_M_netOf_113 rfl ?_
    refine ab_iload (i := 4) d_M_netOf_114 rfl ?_
    refine ab_iadd d_M_netOf_116 ?_
    have g3 := h.1; have h := h.2
    refine ab_iald d_M_netOf_117 rfl rfl g3 ?_
    have g4 := h.1; have h := h.2
    refine ab_iald d_M_netOf_118 rfl rfl g4 ?_
    refine ab_aload_n (i := 0) d_M_netOf_119 rfl rfl ?_
    refine ab_getR (ci := 11) (k := 19) (j := mx_piece) d_M_netOf_120 v_1387 rfl (by decide) (by decide) rfl r_mx_19 ?_
    refine ab_aload_n (i := 0) d_M_netOf_123 rfl rfl ?_
    refine ab_getR (ci := 11) (k := 4) (j := mx_now) d_M_netOf_124 v_1372 rfl (by decide) (by decide) rfl r_mx_4 ?_
    refine ab_bipush (v := 27) d_M_netOf_127 rfl ?_
    refine ab_iload (i := 4) d_M_netOf_129 rfl ?_
    refine ab_iadd d_M_netOf_131 ?_
    have g5 := h.1; have h := h.2
    refine ab_iald d_M_netOf_132 rfl rfl g5 ?_
    have g6 := h.1; have h := h.2
    refine ab_iald d_M_netOf_133 rfl rfl g6 ?_
    refine ab_icmp_ne (tgt := 140) d_M_netOf_134 (by decide) (fun c7 => ?_) (fun c7 => ?_)
    · have h := h.1 c7
      refine ab_aload_n (i := 0) d_M_netOf_140 rfl rfl ?_
      refine ab_aload_n (i := 0) d_M_netOf_141 rfl rfl ?_
      refine ab_getR (ci := 11) (k := 4) (j := mx_now) d_M_netOf_142 v_1372 rfl (by decide) (by decide) rfl r_mx_4 ?_
      refine ab_iconst (v := 3) d_M_netOf_145 rfl ?_
      refine ab_iload (i := 4) d_M_netOf_146 rfl ?_
      refine ab_iadd d_M_netOf_148 ?_
      refine ab_iald d_M_netOf_149 rfl rfl g3 ?_
      refine ab_aload_n (i := 0) d_M_netOf_150 rfl rfl ?_
      refine ab_getR (ci := 11) (k := 4) (j := mx_now) d_M_netOf_151 v_1372 rfl (by decide) (by decide) rfl r_mx_4 ?_
      refine ab_bipush (v := 27) d_M_netOf_154 rfl ?_
      refine ab_iload (i := 4) d_M_netOf_156 rfl ?_
      refine ab_iadd d_M_netOf_158 ?_
      refine ab_iald d_M_netOf_159 rfl rfl g5 ?_
      obtain ⟨I9, hC, h⟩ := h
      refine ab_callV (me2 := mt_M_joins) (b := mx) (as := [.int (I mx_now (3 + v4).toNatClampNeg), .int (I mx_now (27 + v4).toNatClampNeg)]) (st := []) (rv := none) (M2 := (I9, L, ab_RR, n, nc, ns)) d_M_netOf_160 ce_M_joins v_1658 v_1660 v_84 (by decide) rfl (Nat.le_of_ble_eq_true rfl) hC (Nat.le_refl _) (Nat.le_refl _) hc hs (fun j h9 => by cases h9) (fun _ _ => rfl) ?_
      show ab_E w (d + 1) mt_M_netOf 163 [.ref mx, .int v1, .int (v2 &&& (((1 : Int32) <<< (v4 &&& 31)) ^^^ (-1))), .int v3, .int v4, .int v5] [] (I9, L, ab_RR, n, nc, ns) res
      refine ab_iload_n (i := 3) d_M_netOf_163 rfl rfl ?_
      refine ab_iconst (v := 1) d_M_netOf_164 rfl ?_
      refine ab_iload (i := 4) d_M_netOf_165 rfl ?_
      refine ab_ishl d_M_netOf_167 ?_
      refine ab_ior d_M_netOf_168 ?_
      refine ab_istore_n (i := 3) d_M_netOf_169 rfl (by decide) (Or.inr rfl) ?_
      refine ab_aload_n (i := 0) d_M_netOf_170 rfl rfl ?_
      refine ab_getR (ci := 11) (k := 20) (j := mx_taken) d_M_netOf_171 v_1388 rfl (by decide) (by decide) rfl r_mx_20 ?_
      refine ab_aload_n (i := 0) d_M_netOf_174 rfl rfl ?_
      refine ab_getI (ci := 11) (k := 21) d_M_netOf_175 v_1389 rfl (by decide) (by decide) rfl ?_
      refine ab_iload (i := 4) d_M_netOf_178 rfl ?_
      have g10 := h.1; have h := h.2
      refine ab_iast d_M_netOf_180 rfl rfl g10 ?_
      refine ab_aload_n (i := 0) d_M_netOf_181 rfl rfl ?_
      refine ab_dupr d_M_netOf_182 ?_
      refine ab_getI (ci := 11) (k := 21) d_M_netOf_183 v_1389 rfl (by decide) (by decide) rfl ?_
      refine ab_iconst (v := 1) d_M_netOf_186 rfl ?_
      refine ab_iadd d_M_netOf_187 ?_
      refine ab_putI (ci := 11) (k := 21) d_M_netOf_188 v_1389 rfl (by decide) (by decide) rfl (Or.inl rfl) rfl rfl ?_
      refine ab_aload_n (i := 0) d_M_netOf_191 rfl rfl ?_
      refine ab_dupr d_M_netOf_192 ?_
      refine ab_getI (ci := 11) (k := 22) d_M_netOf_193 v_1390 rfl (by decide) (by decide) rfl ?_
      refine ab_aload_n (i := 0) d_M_netOf_196 rfl rfl ?_
      refine ab_iload (i := 4) d_M_netOf_197 rfl ?_
      obtain ⟨r11, hC, h⟩ := h
      refine ab_callV (me2 := mt_M_priceOf) (b := mx) (as := [.int v4]) (st := [.int (I9 mx 22), .ref mx]) (rv := (some (.int r11))) (M2 := ((ab_up (ab_up I9 mx_taken (I9 mx 21).toNatClampNeg v4) mx 21 ((I9 mx 21) + 1)), L, ab_RR, n, nc, ns)) d_M_netOf_199 ce_M_priceOf v_1654 v_1656 v_83 (by decide) rfl (Nat.le_of_ble_eq_true rfl) hC (Nat.le_refl _) (Nat.le_refl _) hc hs (fun j h9 => by cases h9) (fun _ _ => rfl) ?_
      show ab_E w (d + 1) mt_M_netOf 202 [.ref mx, .int v1, .int (v2 &&& (((1 : Int32) <<< (v4 &&& 31)) ^^^ (-1))), .int (v3 ||| ((1 : Int32) <<< (v4 &&& 31))), .int v4, .int v5] [.int r11, .int (I9 mx 22), .ref mx] ((ab_up (ab_up I9 mx_taken (I9 mx 21).toNatClampNeg v4) mx 21 ((I9 mx 21) + 1)), L, ab_RR, n, nc, ns) res
      refine ab_iadd d_M_netOf_202 ?_
      refine ab_putI (ci := 11) (k := 22) d_M_netOf_203 v_1390 rfl (by decide) (by decide) rfl (Or.inl rfl) rfl rfl ?_
      refine ab_goto (tgt := 41) d_M_netOf_206 (by decide) ?_
      refine ab_drop 5 ?_
      exact h
    · have h := h.2 c7
      refine ab_goto (tgt := 41) d_M_netOf_137 (by decide) ?_
      refine ab_drop 5 ?_
      exact h
  · have h := h.2 c2
    refine ab_iload_n (i := 2) d_M_netOf_60 rfl rfl ?_
    refine ab_iload (i := 5) d_M_netOf_61 rfl ?_
    obtain ⟨r12, hC, h⟩ := h
    refine ab_callS (me2 := mt_M_has) (as := [.int v2, .int v5]) (st := []) (rv := (some (.int r12))) (M2 := (I, L, ab_RR, n, nc, ns)) d_M_netOf_63 ce_M_has ⟨v_1648, Or.inl v_1647⟩ (Nat.le_of_ble_eq_true rfl) hC (Nat.le_refl _) (Nat.le_refl _) hc hs (fun j h9 => by cases h9) (fun _ _ => rfl) ?_
    show ab_E w (d + 1) mt_M_netOf 66 [.ref mx, .int v1, .int v2, .int v3, .int v4, .int v5] [.int r12] (I, L, ab_RR, n, nc, ns) res
    refine ab_if_eq (tgt := 90) d_M_netOf_66 (by decide) (fun c13 => ?_) (fun c13 => ?_)
    · have h := h.1 c13
      exact h
    · have h := h.2 c13
      refine ab_iload (i := 4) d_M_netOf_69 rfl ?_
      refine ab_iconst (v := (-1)) d_M_netOf_71 rfl ?_
      refine ab_icmp_eq (tgt := 86) d_M_netOf_72 (by decide) (fun c14 => ?_) (fun c14 => ?_)
      · have h := h.1 c14
        exact h
      · have h := h.2 c14
        refine ab_aload_n (i := 0) d_M_netOf_75 rfl rfl ?_
        refine ab_iload (i := 5) d_M_netOf_76 rfl ?_
        refine ab_iload (i := 4) d_M_netOf_78 rfl ?_
        obtain ⟨r15, hC, h⟩ := h
        refine ab_callV (me2 := mt_M_isCheaper) (b := mx) (as := [.int v5, .int v4]) (st := []) (rv := (some (.int r15))) (M2 := (I, L, ab_RR, n, nc, ns)) d_M_netOf_80 ce_M_isCheaper v_1650 v_1652 v_82 (by decide) rfl (Nat.le_of_ble_eq_true rfl) hC (Nat.le_refl _) (Nat.le_refl _) hc hs (fun j h9 => by cases h9) (fun _ _ => rfl) ?_
        show ab_E w (d + 1) mt_M_netOf 83 [.ref mx, .int v1, .int v2, .int v3, .int v4, .int v5] [.int r15] (I, L, ab_RR, n, nc, ns) res
        refine ab_if_eq (tgt := 90) d_M_netOf_83 (by decide) (fun c16 => ?_) (fun c16 => ?_)
        · have h := h.1 c16
          exact h
        · have h := h.2 c16
          exact h
theorem q_M_netOf_86 {w : ab_Wd} {d n nc ns : Nat} {I : Nat → Nat → Int32} {L : Nat → Nat → Int64} {res : ab_Re} (v1 : Int32) (v2 : Int32) (v3 : Int32) (v4 : Int32) (v5 : Int32) (hc : nc ≤ res.2.2.2.2.2.1) (hs : ns ≤ res.2.2.2.2.2.2)
    (h : ab_E w (d + 1) mt_M_netOf 90 [.ref mx, .int v1, .int v2, .int v3, .int v5, .int v5] [] (I, L, ab_RR, n, nc, ns) res) : ab_E w (d + 1) mt_M_netOf 86 [.ref mx, .int v1, .int v2, .int v3, .int v4, .int v5] [] (I, L, ab_RR, n, nc, ns) res := by
  refine ab_iload (i := 5) d_M_netOf_86 rfl ?_
  refine ab_istore (i := 4) d_M_netOf_88 (by decide) (Or.inr rfl) ?_
  exact h
theorem q_M_netOf_90 {w : ab_Wd} {d n nc ns : Nat} {I : Nat → Nat → Int32} {L : Nat → Nat → Int64} {res : ab_Re} (v1 : Int32) (v2 : Int32) (v3 : Int32) (v4 : Int32) (v5 : Int32) (hc : nc ≤ res.2.2.2.2.2.1) (hs : ns ≤ res.2.2.2.2.2.2)
    (h : ab_E w (d + 1) mt_M_netOf 51 [.ref mx, .int v1, .int v2, .int v3, .int v4, .int (v5 + 1)] [] (I, L, ab_RR, n, nc, ns) res) : ab_E w (d + 1) mt_M_netOf 90 [.ref mx, .int v1, .int v2, .int v3, .int v4, .int v5] [] (I, L, ab_RR, n, nc, ns) res := by
  refine ab_iinc (i := 5) (v := (v5 + 1)) d_M_netOf_90 rfl rfl (by decide) (Or.inr rfl) ?_
  refine ab_goto (tgt := 51) d_M_netOf_93 (by decide) ?_
  exact h
theorem d_M_netNow_0 : decode (ab_bc mt_M_netNow) 0 = .ok (.aload_n 0, 1) := by decide +kernel
theorem d_M_netNow_1 : decode (ab_bc mt_M_netNow) 1 = .ok (.aload_n 0, 1) := by decide +kernel
theorem d_M_netNow_2 : decode (ab_bc mt_M_netNow) 2 = .ok (.getfield 24, 3) := by decide +kernel
theorem d_M_netNow_5 : decode (ab_bc mt_M_netNow) 5 = .ok (.iconst 1, 1) := by decide +kernel
theorem d_M_netNow_6 : decode (ab_bc mt_M_netNow) 6 = .ok (.iaload, 1) := by decide +kernel
theorem d_M_netNow_7 : decode (ab_bc mt_M_netNow) 7 = .ok (.invokevirtual 248, 3) := by decide +kernel
theorem d_M_netNow_10 : decode (ab_bc mt_M_netNow) 10 = .ok (.ireturn, 1) := by decide +kernel
-- CableKeeperModel.netNow()I over mx
theorem q_M_netNow_0 {w : ab_Wd} {d n nc ns : Nat} {I : Nat → Nat → Int32} {L : Nat → Nat → Int64} {res : ab_Re}  (hc : nc ≤ res.2.2.2.2.2.1) (hs : ns ≤ res.2.2.2.2.2.2)
    (h : ∃ (r1 : Int32) (I2 : Nat → Nat → Int32), ab_C w d mt_M_netOf [.ref mx, .int (I mx_now 1)] (I, L, ab_RR, n, nc, ns) (.inl (some (.int r1)), (I2, L, ab_RR, n, nc, ns)) ∧ res = (.inl (some (.int r1)), (I2, L, ab_RR, n, nc, ns))) : ab_E w (d + 1) mt_M_netNow 0 [.ref mx] [] (I, L, ab_RR, n, nc, ns) res := by
  refine ab_aload_n (i := 0) d_M_netNow_0 rfl rfl ?_
  refine ab_aload_n (i := 0) d_M_netNow_1 rfl rfl ?_
  refine ab_getR (ci := 11) (k := 4) (j := mx_now) d_M_netNow_2 v_1372 rfl (by decide) (by decide) rfl r_mx_4 ?_
  refine ab_iconst (v := 1) d_M_netNow_5 rfl ?_
  refine ab_iald d_M_netNow_6 rfl rfl (by unfold vp_in; decide) ?_
  obtain ⟨r1, I2, hC, h⟩ := h
  refine ab_callV (me2 := mt_M_netOf) (b := mx) (as := [.int (I mx_now 1)]) (st := []) (rv := (some (.int r1))) (M2 := (I2, L, ab_RR, n, nc, ns)) d_M_netNow_7 ce_M_netOf v_1643 v_1645 v_81 (by decide) rfl (Nat.le_of_ble_eq_true rfl) hC (Nat.le_refl _) (Nat.le_refl _) hc hs (fun j h9 => by cases h9) (fun _ _ => rfl) ?_
  show ab_E w (d + 1) mt_M_netNow 10 [.ref mx] [.int r1] (I2, L, ab_RR, n, nc, ns) res
  exact ab_iret (ty := .int) d_M_netNow_10 rfl rfl h
theorem d_M_pieces_0 : decode (ab_bc mt_M_pieces) 0 = .ok (.aload_n 0, 1) := by decide +kernel
theorem d_M_pieces_1 : decode (ab_bc mt_M_pieces) 1 = .ok (.getfield 21, 3) := by decide +kernel
theorem d_M_pieces_4 : decode (ab_bc mt_M_pieces) 4 = .ok (.aload_n 0, 1) := by decide +kernel
theorem d_M_pieces_5 : decode (ab_bc mt_M_pieces) 5 = .ok (.getfield 228, 3) := by decide +kernel
theorem d_M_pieces_8 : decode (ab_bc mt_M_pieces) 8 = .ok (.isub, 1) := by decide +kernel
theorem d_M_pieces_9 : decode (ab_bc mt_M_pieces) 9 = .ok (.ireturn, 1) := by decide +kernel
-- CableKeeperModel.pieces()I over mx
theorem q_M_pieces_0 {w : ab_Wd} {d n nc ns : Nat} {I : Nat → Nat → Int32} {L : Nat → Nat → Int64} {res : ab_Re}  (hc : nc ≤ res.2.2.2.2.2.1) (hs : ns ≤ res.2.2.2.2.2.2)
    (h : res = (.inl (some (.int ((I mx 2) - (I mx 21)))), (I, L, ab_RR, n, nc, ns))) : ab_E w d mt_M_pieces 0 [.ref mx] [] (I, L, ab_RR, n, nc, ns) res := by
  refine ab_aload_n (i := 0) d_M_pieces_0 rfl rfl ?_
  refine ab_getI (ci := 11) (k := 2) d_M_pieces_1 v_1370 rfl (by decide) (by decide) rfl ?_
  refine ab_aload_n (i := 0) d_M_pieces_4 rfl rfl ?_
  refine ab_getI (ci := 11) (k := 21) d_M_pieces_5 v_1389 rfl (by decide) (by decide) rfl ?_
  refine ab_isub d_M_pieces_8 ?_
  exact ab_iret (ty := .int) d_M_pieces_9 rfl rfl h
theorem d_M_totalNow_0 : decode (ab_bc mt_M_totalNow) 0 = .ok (.aload_n 0, 1) := by decide +kernel
theorem d_M_totalNow_1 : decode (ab_bc mt_M_totalNow) 1 = .ok (.invokevirtual 251, 3) := by decide +kernel
theorem d_M_totalNow_4 : decode (ab_bc mt_M_totalNow) 4 = .ok (.istore_n 1, 1) := by decide +kernel
theorem d_M_totalNow_5 : decode (ab_bc mt_M_totalNow) 5 = .ok (.aload_n 0, 1) := by decide +kernel
theorem d_M_totalNow_6 : decode (ab_bc mt_M_totalNow) 6 = .ok (.getfield 231, 3) := by decide +kernel
theorem d_M_totalNow_9 : decode (ab_bc mt_M_totalNow) 9 = .ok (.ireturn, 1) := by decide +kernel
-- CableKeeperModel.totalNow()I over mx
theorem q_M_totalNow_0 {w : ab_Wd} {d n nc ns : Nat} {I : Nat → Nat → Int32} {L : Nat → Nat → Int64} {res : ab_Re}  (hc : nc ≤ res.2.2.2.2.2.1) (hs : ns ≤ res.2.2.2.2.2.2)
    (h : ∃ (r1 : Int32) (I2 : Nat → Nat → Int32), ab_C w d mt_M_netNow [.ref mx] (I, L, ab_RR, n, nc, ns) (.inl (some (.int r1)), (I2, L, ab_RR, n, nc, ns)) ∧ res = (.inl (some (.int (I2 mx 22))), (I2, L, ab_RR, n, nc, ns))) : ab_E w (d + 1) mt_M_totalNow 0 [.ref mx, .null] [] (I, L, ab_RR, n, nc, ns) res := by
  refine ab_aload_n (i := 0) d_M_totalNow_0 rfl rfl ?_
  obtain ⟨r1, I2, hC, h⟩ := h
  refine ab_callV (me2 := mt_M_netNow) (b := mx) (as := []) (st := []) (rv := (some (.int r1))) (M2 := (I2, L, ab_RR, n, nc, ns)) d_M_totalNow_1 ce_M_netNow v_1639 v_1641 v_80 (by decide) rfl (Nat.le_of_ble_eq_true rfl) hC (Nat.le_refl _) (Nat.le_refl _) hc hs (fun j h9 => by cases h9) (fun _ _ => rfl) ?_
  show ab_E w (d + 1) mt_M_totalNow 4 [.ref mx, .null] [.int r1] (I2, L, ab_RR, n, nc, ns) res
  refine ab_istore_n (i := 1) d_M_totalNow_4 rfl (by decide) (Or.inr rfl) ?_
  refine ab_aload_n (i := 0) d_M_totalNow_5 rfl rfl ?_
  refine ab_getI (ci := 11) (k := 22) d_M_totalNow_6 v_1390 rfl (by decide) (by decide) rfl ?_
  exact ab_iret (ty := .int) d_M_totalNow_9 rfl rfl h
theorem d_M_piecesNow_0 : decode (ab_bc mt_M_piecesNow) 0 = .ok (.aload_n 0, 1) := by decide +kernel
theorem d_M_piecesNow_1 : decode (ab_bc mt_M_piecesNow) 1 = .ok (.invokevirtual 251, 3) := by decide +kernel
theorem d_M_piecesNow_4 : decode (ab_bc mt_M_piecesNow) 4 = .ok (.istore_n 1, 1) := by decide +kernel
theorem d_M_piecesNow_5 : decode (ab_bc mt_M_piecesNow) 5 = .ok (.aload_n 0, 1) := by decide +kernel
theorem d_M_piecesNow_6 : decode (ab_bc mt_M_piecesNow) 6 = .ok (.invokevirtual 254, 3) := by decide +kernel
theorem d_M_piecesNow_9 : decode (ab_bc mt_M_piecesNow) 9 = .ok (.ireturn, 1) := by decide +kernel
-- CableKeeperModel.piecesNow()I over mx
theorem q_M_piecesNow_0 {w : ab_Wd} {d n nc ns : Nat} {I : Nat → Nat → Int32} {L : Nat → Nat → Int64} {res : ab_Re}  (hc : nc ≤ res.2.2.2.2.2.1) (hs : ns ≤ res.2.2.2.2.2.2)
    (h : ∃ (r1 : Int32) (I2 : Nat → Nat → Int32), ab_C w d mt_M_netNow [.ref mx] (I, L, ab_RR, n, nc, ns) (.inl (some (.int r1)), (I2, L, ab_RR, n, nc, ns)) ∧ ∃ (r3 : Int32), ab_C w d mt_M_pieces [.ref mx] (I2, L, ab_RR, n, nc, ns) (.inl (some (.int r3)), (I2, L, ab_RR, n, nc, ns)) ∧ res = (.inl (some (.int r3)), (I2, L, ab_RR, n, nc, ns))) : ab_E w (d + 1) mt_M_piecesNow 0 [.ref mx, .null] [] (I, L, ab_RR, n, nc, ns) res := by
  refine ab_aload_n (i := 0) d_M_piecesNow_0 rfl rfl ?_
  obtain ⟨r1, I2, hC, h⟩ := h
  refine ab_callV (me2 := mt_M_netNow) (b := mx) (as := []) (st := []) (rv := (some (.int r1))) (M2 := (I2, L, ab_RR, n, nc, ns)) d_M_piecesNow_1 ce_M_netNow v_1639 v_1641 v_80 (by decide) rfl (Nat.le_of_ble_eq_true rfl) hC (Nat.le_refl _) (Nat.le_refl _) hc hs (fun j h9 => by cases h9) (fun _ _ => rfl) ?_
  show ab_E w (d + 1) mt_M_piecesNow 4 [.ref mx, .null] [.int r1] (I2, L, ab_RR, n, nc, ns) res
  refine ab_istore_n (i := 1) d_M_piecesNow_4 rfl (by decide) (Or.inr rfl) ?_
  refine ab_aload_n (i := 0) d_M_piecesNow_5 rfl rfl ?_
  obtain ⟨r3, hC, h⟩ := h
  refine ab_callV (me2 := mt_M_pieces) (b := mx) (as := []) (st := []) (rv := (some (.int r3))) (M2 := (I2, L, ab_RR, n, nc, ns)) d_M_piecesNow_6 ce_M_pieces v_1671 v_1673 v_87 (by decide) rfl (Nat.le_of_ble_eq_true rfl) hC (Nat.le_refl _) (Nat.le_refl _) hc hs (fun j h9 => by cases h9) (fun _ _ => rfl) ?_
  show ab_E w (d + 1) mt_M_piecesNow 9 [.ref mx, .int r1] [.int r3] (I2, L, ab_RR, n, nc, ns) res
  exact ab_iret (ty := .int) d_M_piecesNow_9 rfl rfl h
