theorem d_M_told_0 : decode (ab_bc mt_M_told) 0 = .ok (.aload_n 0, 1) := by decide +kernel
theorem d_M_told_1 : decode (ab_bc mt_M_told) 1 = .ok (.iconst 0, 1) := by decide +kernel
theorem d_M_told_2 : decode (ab_bc mt_M_told) 2 = .ok (.putfield 108, 3) := by decide +kernel
theorem d_M_told_5 : decode (ab_bc mt_M_told) 5 = .ok (.aload_n 0, 1) := by decide +kernel
theorem d_M_told_6 : decode (ab_bc mt_M_told) 6 = .ok (.iload_n 1, 1) := by decide +kernel
theorem d_M_told_7 : decode (ab_bc mt_M_told) 7 = .ok (.putfield 391, 3) := by decide +kernel
theorem d_M_told_10 : decode (ab_bc mt_M_told) 10 = .ok (.aload_n 0, 1) := by decide +kernel
theorem d_M_told_11 : decode (ab_bc mt_M_told) 11 = .ok (.iconst (-1), 1) := by decide +kernel
theorem d_M_told_12 : decode (ab_bc mt_M_told) 12 = .ok (.putfield 394, 3) := by decide +kernel
theorem d_M_told_15 : decode (ab_bc mt_M_told) 15 = .ok (.aload_n 0, 1) := by decide +kernel
theorem d_M_told_16 : decode (ab_bc mt_M_told) 16 = .ok (.invokevirtual 413, 3) := by decide +kernel
theorem d_M_told_19 : decode (ab_bc mt_M_told) 19 = .ok (.iload_n 1, 1) := by decide +kernel
theorem d_M_told_20 : decode (ab_bc mt_M_told) 20 = .ok (.iconst (-1), 1) := by decide +kernel
theorem d_M_told_21 : decode (ab_bc mt_M_told) 21 = .ok (.if_icmp .ne 10, 3) := by decide +kernel
theorem d_M_told_24 : decode (ab_bc mt_M_told) 24 = .ok (.aload_n 0, 1) := by decide +kernel
theorem d_M_told_25 : decode (ab_bc mt_M_told) 25 = .ok (.getfield 388, 3) := by decide +kernel
theorem d_M_told_28 : decode (ab_bc mt_M_told) 28 = .ok (.goto 23, 3) := by decide +kernel
theorem d_M_told_31 : decode (ab_bc mt_M_told) 31 = .ok (.aload_n 0, 1) := by decide +kernel
theorem d_M_told_32 : decode (ab_bc mt_M_told) 32 = .ok (.getfield 394, 3) := by decide +kernel
theorem d_M_told_35 : decode (ab_bc mt_M_told) 35 = .ok (.iconst (-1), 1) := by decide +kernel
theorem d_M_told_36 : decode (ab_bc mt_M_told) 36 = .ok (.if_icmp .ne 11, 3) := by decide +kernel
theorem d_M_told_39 : decode (ab_bc mt_M_told) 39 = .ok (.aload_n 0, 1) := by decide +kernel
theorem d_M_told_40 : decode (ab_bc mt_M_told) 40 = .ok (.iconst 1, 1) := by decide +kernel
theorem d_M_told_41 : decode (ab_bc mt_M_told) 41 = .ok (.invokevirtual 202, 3) := by decide +kernel
theorem d_M_told_44 : decode (ab_bc mt_M_told) 44 = .ok (.goto 7, 3) := by decide +kernel
theorem d_M_told_47 : decode (ab_bc mt_M_told) 47 = .ok (.aload_n 0, 1) := by decide +kernel
theorem d_M_told_48 : decode (ab_bc mt_M_told) 48 = .ok (.getfield 394, 3) := by decide +kernel
theorem d_M_told_51 : decode (ab_bc mt_M_told) 51 = .ok (.ireturn, 1) := by decide +kernel
-- CableKeeperModel.told(I)I over mx
theorem q_M_told_0 {w : ab_Wd} {d n nc ns : Nat} {I : Nat → Nat → Int32} {L : Nat → Nat → Int64} {res : ab_Re} (v1 : Int32) (hc : nc ≤ res.2.2.2.2.2.1) (hs : ns ≤ res.2.2.2.2.2.2)
    (h : ∃ (I2 : Nat → Nat → Int32), ab_C w d mt_M_tellAll [.ref mx] ((ab_up (ab_up (ab_up I mx 1 0) mx 37 v1) mx 39 (-1)), L, ab_RR, n, nc, ns) (.inl none, (I2, L, ab_RR, n, nc, ns)) ∧ ((¬ v1 = (-1) → ((¬ (I2 mx 39) = (-1) → (ab_E w (d + 1) mt_M_told 51 [.ref mx, .int v1] [.int (I2 mx 39)] (I2, L, ab_RR, n, nc, ns) res)) ∧ ((I2 mx 39) = (-1) → (∃ (r5 : Int32) (I6 : Nat → Nat → Int32), ab_C w d mt_M_fail [.ref mx, .int 1] (I2, L, ab_RR, n, nc, ns) (.inl (some (.int r5)), (I6, L, ab_RR, n, nc, ns)) ∧ ab_E w (d + 1) mt_M_told 51 [.ref mx, .int v1] [.int r5] (I6, L, ab_RR, n, nc, ns) res)))) ∧ (v1 = (-1) → (ab_E w (d + 1) mt_M_told 51 [.ref mx, .int v1] [.int (I2 mx 38)] (I2, L, ab_RR, n, nc, ns) res)))) : ab_E w (d + 1) mt_M_told 0 [.ref mx, .int v1] [] (I, L, ab_RR, n, nc, ns) res := by
  refine ab_aload_n (i := 0) d_M_told_0 rfl rfl ?_
  refine ab_iconst (v := 0) d_M_told_1 rfl ?_
  refine ab_putI (ci := 11) (k := 1) d_M_told_2 v_1369 rfl (by decide) (by decide) rfl (Or.inl rfl) rfl rfl ?_
  refine ab_aload_n (i := 0) d_M_told_5 rfl rfl ?_
  refine ab_iload_n (i := 1) d_M_told_6 rfl rfl ?_
  refine ab_putI (ci := 11) (k := 37) d_M_told_7 v_1405 rfl (by decide) (by decide) rfl (Or.inl rfl) rfl rfl ?_
  refine ab_aload_n (i := 0) d_M_told_10 rfl rfl ?_
  refine ab_iconst (v := (-1)) d_M_told_11 rfl ?_
  refine ab_putI (ci := 11) (k := 39) d_M_told_12 v_1407 rfl (by decide) (by decide) rfl (Or.inl rfl) rfl rfl ?_
  refine ab_aload_n (i := 0) d_M_told_15 rfl rfl ?_
  obtain ⟨I2, hC, h⟩ := h
  refine ab_callV (me2 := mt_M_tellAll) (b := mx) (as := []) (st := []) (rv := none) (M2 := (I2, L, ab_RR, n, nc, ns)) d_M_told_16 ce_M_tellAll v_1844 v_1846 v_119 (by decide) rfl (Nat.le_of_ble_eq_true rfl) hC (Nat.le_refl _) (Nat.le_refl _) hc hs (fun j h9 => by cases h9) (fun _ _ => rfl) ?_
  show ab_E w (d + 1) mt_M_told 19 [.ref mx, .int v1] [] (I2, L, ab_RR, n, nc, ns) res
  refine ab_iload_n (i := 1) d_M_told_19 rfl rfl ?_
  refine ab_iconst (v := (-1)) d_M_told_20 rfl ?_
  refine ab_icmp_ne (tgt := 31) d_M_told_21 (by decide) (fun c3 => ?_) (fun c3 => ?_)
  · have h := h.1 c3
    refine ab_aload_n (i := 0) d_M_told_31 rfl rfl ?_
    refine ab_getI (ci := 11) (k := 39) d_M_told_32 v_1407 rfl (by decide) (by decide) rfl ?_
    refine ab_iconst (v := (-1)) d_M_told_35 rfl ?_
    refine ab_icmp_ne (tgt := 47) d_M_told_36 (by decide) (fun c4 => ?_) (fun c4 => ?_)
    · have h := h.1 c4
      refine ab_aload_n (i := 0) d_M_told_47 rfl rfl ?_
      refine ab_getI (ci := 11) (k := 39) d_M_told_48 v_1407 rfl (by decide) (by decide) rfl ?_
      exact h
    · have h := h.2 c4
      refine ab_aload_n (i := 0) d_M_told_39 rfl rfl ?_
      refine ab_iconst (v := 1) d_M_told_40 rfl ?_
      obtain ⟨r5, I6, hC, h⟩ := h
      refine ab_callV (me2 := mt_M_fail) (b := mx) (as := [.int 1]) (st := []) (rv := (some (.int r5))) (M2 := (I6, L, ab_RR, n, nc, ns)) d_M_told_41 ce_M_fail v_1562 v_1564 v_66 (by decide) rfl (Nat.le_of_ble_eq_true rfl) hC (Nat.le_refl _) (Nat.le_refl _) hc hs (fun j h9 => by cases h9) (fun _ _ => rfl) ?_
      show ab_E w (d + 1) mt_M_told 44 [.ref mx, .int v1] [.int r5] (I6, L, ab_RR, n, nc, ns) res
      refine ab_goto (tgt := 51) d_M_told_44 (by decide) ?_
      exact h
  · have h := h.2 c3
    refine ab_aload_n (i := 0) d_M_told_24 rfl rfl ?_
    refine ab_getI (ci := 11) (k := 38) d_M_told_25 v_1406 rfl (by decide) (by decide) rfl ?_
    refine ab_goto (tgt := 51) d_M_told_28 (by decide) ?_
    exact h
theorem q_M_told_51 {w : ab_Wd} {d n nc ns : Nat} {I : Nat → Nat → Int32} {L : Nat → Nat → Int64} {res : ab_Re} (v1 : Int32) (s0 : Int32) (hc : nc ≤ res.2.2.2.2.2.1) (hs : ns ≤ res.2.2.2.2.2.2)
    (h : res = (.inl (some (.int s0)), (I, L, ab_RR, n, nc, ns))) : ab_E w (d + 1) mt_M_told 51 [.ref mx, .int v1] [.int s0] (I, L, ab_RR, n, nc, ns) res := by
  exact ab_iret (ty := .int) d_M_told_51 rfl rfl h
theorem d_M_soundOf_0 : decode (ab_bc mt_M_soundOf) 0 = .ok (.iconst 0, 1) := by decide +kernel
theorem d_M_soundOf_1 : decode (ab_bc mt_M_soundOf) 1 = .ok (.istore_n 2, 1) := by decide +kernel
theorem d_M_soundOf_2 : decode (ab_bc mt_M_soundOf) 2 = .ok (.iconst 0, 1) := by decide +kernel
theorem d_M_soundOf_3 : decode (ab_bc mt_M_soundOf) 3 = .ok (.istore_n 3, 1) := by decide +kernel
theorem d_M_soundOf_4 : decode (ab_bc mt_M_soundOf) 4 = .ok (.iload_n 3, 1) := by decide +kernel
theorem d_M_soundOf_5 : decode (ab_bc mt_M_soundOf) 5 = .ok (.aload_n 0, 1) := by decide +kernel
theorem d_M_soundOf_6 : decode (ab_bc mt_M_soundOf) 6 = .ok (.invokevirtual 234, 3) := by decide +kernel
theorem d_M_soundOf_9 : decode (ab_bc mt_M_soundOf) 9 = .ok (.if_icmp .ge 40, 3) := by decide +kernel
theorem d_M_soundOf_12 : decode (ab_bc mt_M_soundOf) 12 = .ok (.iload_n 2, 1) := by decide +kernel
theorem d_M_soundOf_13 : decode (ab_bc mt_M_soundOf) 13 = .ok (.aload_n 0, 1) := by decide +kernel
theorem d_M_soundOf_14 : decode (ab_bc mt_M_soundOf) 14 = .ok (.iload_n 3, 1) := by decide +kernel
theorem d_M_soundOf_15 : decode (ab_bc mt_M_soundOf) 15 = .ok (.invokevirtual 262, 3) := by decide +kernel
theorem d_M_soundOf_18 : decode (ab_bc mt_M_soundOf) 18 = .ok (.ifCond .eq 22, 3) := by decide +kernel
theorem d_M_soundOf_21 : decode (ab_bc mt_M_soundOf) 21 = .ok (.aload_n 0, 1) := by decide +kernel
theorem d_M_soundOf_22 : decode (ab_bc mt_M_soundOf) 22 = .ok (.getfield 24, 3) := by decide +kernel
theorem d_M_soundOf_25 : decode (ab_bc mt_M_soundOf) 25 = .ok (.bipush 75, 2) := by decide +kernel
theorem d_M_soundOf_27 : decode (ab_bc mt_M_soundOf) 27 = .ok (.iload_n 3, 1) := by decide +kernel
theorem d_M_soundOf_28 : decode (ab_bc mt_M_soundOf) 28 = .ok (.iadd, 1) := by decide +kernel
theorem d_M_soundOf_29 : decode (ab_bc mt_M_soundOf) 29 = .ok (.iaload, 1) := by decide +kernel
theorem d_M_soundOf_30 : decode (ab_bc mt_M_soundOf) 30 = .ok (.iload_n 1, 1) := by decide +kernel
theorem d_M_soundOf_31 : decode (ab_bc mt_M_soundOf) 31 = .ok (.if_icmp .ne 9, 3) := by decide +kernel
theorem d_M_soundOf_34 : decode (ab_bc mt_M_soundOf) 34 = .ok (.iconst 1, 1) := by decide +kernel
theorem d_M_soundOf_35 : decode (ab_bc mt_M_soundOf) 35 = .ok (.iload_n 3, 1) := by decide +kernel
theorem d_M_soundOf_36 : decode (ab_bc mt_M_soundOf) 36 = .ok (.ishl, 1) := by decide +kernel
theorem d_M_soundOf_37 : decode (ab_bc mt_M_soundOf) 37 = .ok (.goto 4, 3) := by decide +kernel
theorem d_M_soundOf_40 : decode (ab_bc mt_M_soundOf) 40 = .ok (.iconst 0, 1) := by decide +kernel
theorem d_M_soundOf_41 : decode (ab_bc mt_M_soundOf) 41 = .ok (.ior, 1) := by decide +kernel
theorem d_M_soundOf_42 : decode (ab_bc mt_M_soundOf) 42 = .ok (.istore_n 2, 1) := by decide +kernel
theorem d_M_soundOf_43 : decode (ab_bc mt_M_soundOf) 43 = .ok (.iinc 3 1, 3) := by decide +kernel
theorem d_M_soundOf_46 : decode (ab_bc mt_M_soundOf) 46 = .ok (.goto (-42), 3) := by decide +kernel
theorem d_M_soundOf_49 : decode (ab_bc mt_M_soundOf) 49 = .ok (.iload_n 2, 1) := by decide +kernel
theorem d_M_soundOf_50 : decode (ab_bc mt_M_soundOf) 50 = .ok (.ireturn, 1) := by decide +kernel
-- CableKeeperModel.soundOf(I)I over mx
theorem q_M_soundOf_0 {w : ab_Wd} {d n nc ns : Nat} {I : Nat → Nat → Int32} {L : Nat → Nat → Int64} {res : ab_Re} (v1 : Int32) (hc : nc ≤ res.2.2.2.2.2.1) (hs : ns ≤ res.2.2.2.2.2.2)
    (h : ab_E w (d + 1) mt_M_soundOf 4 [.ref mx, .int v1, .int 0, .int 0] [] (I, L, ab_RR, n, nc, ns) res) : ab_E w (d + 1) mt_M_soundOf 0 [.ref mx, .int v1, .null, .null] [] (I, L, ab_RR, n, nc, ns) res := by
  refine ab_iconst (v := 0) d_M_soundOf_0 rfl ?_
  refine ab_istore_n (i := 2) d_M_soundOf_1 rfl (by decide) (Or.inr rfl) ?_
  refine ab_iconst (v := 0) d_M_soundOf_2 rfl ?_
  refine ab_istore_n (i := 3) d_M_soundOf_3 rfl (by decide) (Or.inr rfl) ?_
  exact h
theorem q_M_soundOf_4 {w : ab_Wd} {d n nc ns : Nat} {I : Nat → Nat → Int32} {L : Nat → Nat → Int64} {res : ab_Re} (v1 : Int32) (v2 : Int32) (v3 : Int32) (hc : nc ≤ res.2.2.2.2.2.1) (hs : ns ≤ res.2.2.2.2.2.2)
    (h : ∃ (r1 : Int32), ab_C w d mt_M_many [.ref mx] (I, L, ab_RR, n, nc, ns) (.inl (some (.int r1)), (I, L, ab_RR, n, nc, ns)) ∧ ((r1 ≤ v3 → (res = (.inl (some (.int v2)), (I, L, ab_RR, n, nc, ns)))) ∧ (¬ r1 ≤ v3 → (∃ (r3 : Int32), ab_C w d mt_M_isSound [.ref mx, .int v3] (I, L, ab_RR, n, nc, ns) (.inl (some (.int r3)), (I, L, ab_RR, n, nc, ns)) ∧ ((r3 = 0 → (ab_E w (d + 1) mt_M_soundOf 40 [.ref mx, .int v1, .int v2, .int v3] [.int v2] (I, L, ab_RR, n, nc, ns) res)) ∧ (¬ r3 = 0 → ((vp_in (75 + v3) 399) ∧ ((¬ (I mx_now (75 + v3).toNatClampNeg) = v1 → (ab_E w (d + 1) mt_M_soundOf 40 [.ref mx, .int v1, .int v2, .int v3] [.int v2] (I, L, ab_RR, n, nc, ns) res)) ∧ ((I mx_now (75 + v3).toNatClampNeg) = v1 → (ab_E w (d + 1) mt_M_soundOf 41 [.ref mx, .int v1, .int v2, .int v3] [.int ((1 : Int32) <<< (v3 &&& 31)), .int v2] (I, L, ab_RR, n, nc, ns) res)))))))))) : ab_E w (d + 1) mt_M_soundOf 4 [.ref mx, .int v1, .int v2, .int v3] [] (I, L, ab_RR, n, nc, ns) res := by
  refine ab_iload_n (i := 3) d_M_soundOf_4 rfl rfl ?_
  refine ab_aload_n (i := 0) d_M_soundOf_5 rfl rfl ?_
  obtain ⟨r1, hC, h⟩ := h
  refine ab_callV (me2 := mt_M_many) (b := mx) (as := []) (st := [.int v3]) (rv := (some (.int r1))) (M2 := (I, L, ab_RR, n, nc, ns)) d_M_soundOf_6 ce_M_many v_1635 v_1637 v_79 (by decide) rfl (Nat.le_of_ble_eq_true rfl) hC (Nat.le_refl _) (Nat.le_refl _) hc hs (fun j h9 => by cases h9) (fun _ _ => rfl) ?_
  show ab_E w (d + 1) mt_M_soundOf 9 [.ref mx, .int v1, .int v2, .int v3] [.int r1, .int v3] (I, L, ab_RR, n, nc, ns) res
  refine ab_icmp_ge (tgt := 49) d_M_soundOf_9 (by decide) (fun c2 => ?_) (fun c2 => ?_)
  · have h := h.1 c2
    refine ab_iload_n (i := 2) d_M_soundOf_49 rfl rfl ?_
    exact ab_iret (ty := .int) d_M_soundOf_50 rfl rfl h
  · have h := h.2 c2
    refine ab_iload_n (i := 2) d_M_soundOf_12 rfl rfl ?_
    refine ab_aload_n (i := 0) d_M_soundOf_13 rfl rfl ?_
    refine ab_iload_n (i := 3) d_M_soundOf_14 rfl rfl ?_
    obtain ⟨r3, hC, h⟩ := h
    refine ab_callV (me2 := mt_M_isSound) (b := mx) (as := [.int v3]) (st := [.int v2]) (rv := (some (.int r3))) (M2 := (I, L, ab_RR, n, nc, ns)) d_M_soundOf_15 ce_M_isSound v_1679 v_1681 v_89 (by decide) rfl (Nat.le_of_ble_eq_true rfl) hC (Nat.le_refl _) (Nat.le_refl _) hc hs (fun j h9 => by cases h9) (fun _ _ => rfl) ?_
    show ab_E w (d + 1) mt_M_soundOf 18 [.ref mx, .int v1, .int v2, .int v3] [.int r3, .int v2] (I, L, ab_RR, n, nc, ns) res
    refine ab_if_eq (tgt := 40) d_M_soundOf_18 (by decide) (fun c4 => ?_) (fun c4 => ?_)
    · have h := h.1 c4
      exact h
    · have h := h.2 c4
      refine ab_aload_n (i := 0) d_M_soundOf_21 rfl rfl ?_
      refine ab_getR (ci := 11) (k := 4) (j := mx_now) d_M_soundOf_22 v_1372 rfl (by decide) (by decide) rfl r_mx_4 ?_
      refine ab_bipush (v := 75) d_M_soundOf_25 rfl ?_
      refine ab_iload_n (i := 3) d_M_soundOf_27 rfl rfl ?_
      refine ab_iadd d_M_soundOf_28 ?_
      have g5 := h.1; have h := h.2
      refine ab_iald d_M_soundOf_29 rfl rfl g5 ?_
      refine ab_iload_n (i := 1) d_M_soundOf_30 rfl rfl ?_
      refine ab_icmp_ne (tgt := 40) d_M_soundOf_31 (by decide) (fun c6 => ?_) (fun c6 => ?_)
      · have h := h.1 c6
        exact h
      · have h := h.2 c6
        refine ab_iconst (v := 1) d_M_soundOf_34 rfl ?_
        refine ab_iload_n (i := 3) d_M_soundOf_35 rfl rfl ?_
        refine ab_ishl d_M_soundOf_36 ?_
        refine ab_goto (tgt := 41) d_M_soundOf_37 (by decide) ?_
        exact h
theorem q_M_soundOf_40 {w : ab_Wd} {d n nc ns : Nat} {I : Nat → Nat → Int32} {L : Nat → Nat → Int64} {res : ab_Re} (v1 : Int32) (v2 : Int32) (v3 : Int32) (s0 : Int32) (hc : nc ≤ res.2.2.2.2.2.1) (hs : ns ≤ res.2.2.2.2.2.2)
    (h : ab_E w (d + 1) mt_M_soundOf 41 [.ref mx, .int v1, .int v2, .int v3] [.int 0, .int s0] (I, L, ab_RR, n, nc, ns) res) : ab_E w (d + 1) mt_M_soundOf 40 [.ref mx, .int v1, .int v2, .int v3] [.int s0] (I, L, ab_RR, n, nc, ns) res := by
  refine ab_iconst (v := 0) d_M_soundOf_40 rfl ?_
  exact h
theorem q_M_soundOf_41 {w : ab_Wd} {d n nc ns : Nat} {I : Nat → Nat → Int32} {L : Nat → Nat → Int64} {res : ab_Re} (v1 : Int32) (v2 : Int32) (v3 : Int32) (s0 : Int32) (s1 : Int32) (hc : nc ≤ res.2.2.2.2.2.1) (hs : ns ≤ res.2.2.2.2.2.2)
    (h : ab_E w (d + 1) mt_M_soundOf 4 [.ref mx, .int v1, .int (s0 ||| s1), .int (v3 + 1)] [] (I, L, ab_RR, n, nc, ns) res) : ab_E w (d + 1) mt_M_soundOf 41 [.ref mx, .int v1, .int v2, .int v3] [.int s1, .int s0] (I, L, ab_RR, n, nc, ns) res := by
  refine ab_ior d_M_soundOf_41 ?_
  refine ab_istore_n (i := 2) d_M_soundOf_42 rfl (by decide) (Or.inr rfl) ?_
  refine ab_iinc (i := 3) (v := (v3 + 1)) d_M_soundOf_43 rfl rfl (by decide) (Or.inr rfl) ?_
  refine ab_goto (tgt := 4) d_M_soundOf_46 (by decide) ?_
  exact h
theorem d_M_pricesOf_0 : decode (ab_bc mt_M_pricesOf) 0 = .ok (.iconst 0, 1) := by decide +kernel
theorem d_M_pricesOf_1 : decode (ab_bc mt_M_pricesOf) 1 = .ok (.istore_n 2, 1) := by decide +kernel
theorem d_M_pricesOf_2 : decode (ab_bc mt_M_pricesOf) 2 = .ok (.iconst 0, 1) := by decide +kernel
theorem d_M_pricesOf_3 : decode (ab_bc mt_M_pricesOf) 3 = .ok (.istore_n 3, 1) := by decide +kernel
theorem d_M_pricesOf_4 : decode (ab_bc mt_M_pricesOf) 4 = .ok (.iload_n 3, 1) := by decide +kernel
theorem d_M_pricesOf_5 : decode (ab_bc mt_M_pricesOf) 5 = .ok (.aload_n 0, 1) := by decide +kernel
theorem d_M_pricesOf_6 : decode (ab_bc mt_M_pricesOf) 6 = .ok (.invokevirtual 234, 3) := by decide +kernel
theorem d_M_pricesOf_9 : decode (ab_bc mt_M_pricesOf) 9 = .ok (.if_icmp .ge 29, 3) := by decide +kernel
theorem d_M_pricesOf_12 : decode (ab_bc mt_M_pricesOf) 12 = .ok (.iload_n 2, 1) := by decide +kernel
theorem d_M_pricesOf_13 : decode (ab_bc mt_M_pricesOf) 13 = .ok (.iload_n 1, 1) := by decide +kernel
theorem d_M_pricesOf_14 : decode (ab_bc mt_M_pricesOf) 14 = .ok (.iload_n 3, 1) := by decide +kernel
theorem d_M_pricesOf_15 : decode (ab_bc mt_M_pricesOf) 15 = .ok (.invokestatic 237, 3) := by decide +kernel
theorem d_M_pricesOf_18 : decode (ab_bc mt_M_pricesOf) 18 = .ok (.ifCond .eq 11, 3) := by decide +kernel
theorem d_M_pricesOf_21 : decode (ab_bc mt_M_pricesOf) 21 = .ok (.aload_n 0, 1) := by decide +kernel
theorem d_M_pricesOf_22 : decode (ab_bc mt_M_pricesOf) 22 = .ok (.iload_n 3, 1) := by decide +kernel
theorem d_M_pricesOf_23 : decode (ab_bc mt_M_pricesOf) 23 = .ok (.invokevirtual 222, 3) := by decide +kernel
theorem d_M_pricesOf_26 : decode (ab_bc mt_M_pricesOf) 26 = .ok (.goto 4, 3) := by decide +kernel
theorem d_M_pricesOf_29 : decode (ab_bc mt_M_pricesOf) 29 = .ok (.iconst 0, 1) := by decide +kernel
theorem d_M_pricesOf_30 : decode (ab_bc mt_M_pricesOf) 30 = .ok (.iadd, 1) := by decide +kernel
theorem d_M_pricesOf_31 : decode (ab_bc mt_M_pricesOf) 31 = .ok (.istore_n 2, 1) := by decide +kernel
theorem d_M_pricesOf_32 : decode (ab_bc mt_M_pricesOf) 32 = .ok (.iinc 3 1, 3) := by decide +kernel
theorem d_M_pricesOf_35 : decode (ab_bc mt_M_pricesOf) 35 = .ok (.goto (-31), 3) := by decide +kernel
theorem d_M_pricesOf_38 : decode (ab_bc mt_M_pricesOf) 38 = .ok (.iload_n 2, 1) := by decide +kernel
theorem d_M_pricesOf_39 : decode (ab_bc mt_M_pricesOf) 39 = .ok (.ireturn, 1) := by decide +kernel
-- CableKeeperModel.pricesOf(I)I over mx
theorem q_M_pricesOf_0 {w : ab_Wd} {d n nc ns : Nat} {I : Nat → Nat → Int32} {L : Nat → Nat → Int64} {res : ab_Re} (v1 : Int32) (hc : nc ≤ res.2.2.2.2.2.1) (hs : ns ≤ res.2.2.2.2.2.2)
    (h : ab_E w (d + 1) mt_M_pricesOf 4 [.ref mx, .int v1, .int 0, .int 0] [] (I, L, ab_RR, n, nc, ns) res) : ab_E w (d + 1) mt_M_pricesOf 0 [.ref mx, .int v1, .null, .null] [] (I, L, ab_RR, n, nc, ns) res := by
  refine ab_iconst (v := 0) d_M_pricesOf_0 rfl ?_
  refine ab_istore_n (i := 2) d_M_pricesOf_1 rfl (by decide) (Or.inr rfl) ?_
  refine ab_iconst (v := 0) d_M_pricesOf_2 rfl ?_
  refine ab_istore_n (i := 3) d_M_pricesOf_3 rfl (by decide) (Or.inr rfl) ?_
  exact h
theorem q_M_pricesOf_4 {w : ab_Wd} {d n nc ns : Nat} {I : Nat → Nat → Int32} {L : Nat → Nat → Int64} {res : ab_Re} (v1 : Int32) (v2 : Int32) (v3 : Int32) (hc : nc ≤ res.2.2.2.2.2.1) (hs : ns ≤ res.2.2.2.2.2.2)
    (h : ∃ (r1 : Int32), ab_C w d mt_M_many [.ref mx] (I, L, ab_RR, n, nc, ns) (.inl (some (.int r1)), (I, L, ab_RR, n, nc, ns)) ∧ ((r1 ≤ v3 → (res = (.inl (some (.int v2)), (I, L, ab_RR, n, nc, ns)))) ∧ (¬ r1 ≤ v3 → (∃ (r3 : Int32), ab_C w d mt_M_has [.int v1, .int v3] (I, L, ab_RR, n, nc, ns) (.inl (some (.int r3)), (I, L, ab_RR, n, nc, ns)) ∧ ((r3 = 0 → (ab_E w (d + 1) mt_M_pricesOf 30 [.ref mx, .int v1, .int v2, .int v3] [.int 0, .int v2] (I, L, ab_RR, n, nc, ns) res)) ∧ (¬ r3 = 0 → (∃ (r5 : Int32), ab_C w d mt_M_priceOf [.ref mx, .int v3] (I, L, ab_RR, n, nc, ns) (.inl (some (.int r5)), (I, L, ab_RR, n, nc, ns)) ∧ ab_E w (d + 1) mt_M_pricesOf 30 [.ref mx, .int v1, .int v2, .int v3] [.int r5, .int v2] (I, L, ab_RR, n, nc, ns) res))))))) : ab_E w (d + 1) mt_M_pricesOf 4 [.ref mx, .int v1, .int v2, .int v3] [] (I, L, ab_RR, n, nc, ns) res := by
  refine ab_iload_n (i := 3) d_M_pricesOf_4 rfl rfl ?_
  refine ab_aload_n (i := 0) d_M_pricesOf_5 rfl rfl ?_
  obtain ⟨r1, hC, h⟩ := h
  refine ab_callV (me2 := mt_M_many) (b := mx) (as := []) (st := [.int v3]) (rv := (some (.int r1))) (M2 := (I, L, ab_RR, n, nc, ns)) d_M_pricesOf_6 ce_M_many v_1635 v_1637 v_79 (by decide) rfl (Nat.le_of_ble_eq_true rfl) hC (Nat.le_refl _) (Nat.le_refl _) hc hs (fun j h9 => by cases h9) (fun _ _ => rfl) ?_
  show ab_E w (d + 1) mt_M_pricesOf 9 [.ref mx, .int v1, .int v2, .int v3] [.int r1, .int v3] (I, L, ab_RR, n, nc, ns) res
  refine ab_icmp_ge (tgt := 38) d_M_pricesOf_9 (by decide) (fun c2 => ?_) (fun c2 => ?_)
  · have h := h.1 c2
    refine ab_iload_n (i := 2) d_M_pricesOf_38 rfl rfl ?_
    exact ab_iret (ty := .int) d_M_pricesOf_39 rfl rfl h
  · have h := h.2 c2
    refine ab_iload_n (i := 2) d_M_pricesOf_12 rfl rfl ?_
    refine ab_iload_n (i := 1) d_M_pricesOf_13 rfl rfl ?_
    refine ab_iload_n (i := 3) d_M_pricesOf_14 rfl rfl ?_
    obtain ⟨r3, hC, h⟩ := h
    refine ab_callS (me2 := mt_M_has) (as := [.int v1, .int v3]) (st := [.int v2]) (rv := (some (.int r3))) (M2 := (I, L, ab_RR, n, nc, ns)) d_M_pricesOf_15 ce_M_has ⟨v_1648, Or.inl v_1647⟩ (Nat.le_of_ble_eq_true rfl) hC (Nat.le_refl _) (Nat.le_refl _) hc hs (fun j h9 => by cases h9) (fun _ _ => rfl) ?_
    show ab_E w (d + 1) mt_M_pricesOf 18 [.ref mx, .int v1, .int v2, .int v3] [.int r3, .int v2] (I, L, ab_RR, n, nc, ns) res
    refine ab_if_eq (tgt := 29) d_M_pricesOf_18 (by decide) (fun c4 => ?_) (fun c4 => ?_)
    · have h := h.1 c4
      refine ab_iconst (v := 0) d_M_pricesOf_29 rfl ?_
      exact h
    · have h := h.2 c4
      refine ab_aload_n (i := 0) d_M_pricesOf_21 rfl rfl ?_
      refine ab_iload_n (i := 3) d_M_pricesOf_22 rfl rfl ?_
      obtain ⟨r5, hC, h⟩ := h
      refine ab_callV (me2 := mt_M_priceOf) (b := mx) (as := [.int v3]) (st := [.int v2]) (rv := (some (.int r5))) (M2 := (I, L, ab_RR, n, nc, ns)) d_M_pricesOf_23 ce_M_priceOf v_1654 v_1656 v_83 (by decide) rfl (Nat.le_of_ble_eq_true rfl) hC (Nat.le_refl _) (Nat.le_refl _) hc hs (fun j h9 => by cases h9) (fun _ _ => rfl) ?_
      show ab_E w (d + 1) mt_M_pricesOf 26 [.ref mx, .int v1, .int v2, .int v3] [.int r5, .int v2] (I, L, ab_RR, n, nc, ns) res
      refine ab_goto (tgt := 30) d_M_pricesOf_26 (by decide) ?_
      exact h
theorem q_M_pricesOf_30 {w : ab_Wd} {d n nc ns : Nat} {I : Nat → Nat → Int32} {L : Nat → Nat → Int64} {res : ab_Re} (v1 : Int32) (v2 : Int32) (v3 : Int32) (s0 : Int32) (s1 : Int32) (hc : nc ≤ res.2.2.2.2.2.1) (hs : ns ≤ res.2.2.2.2.2.2)
    (h : ab_E w (d + 1) mt_M_pricesOf 4 [.ref mx, .int v1, .int (s0 + s1), .int (v3 + 1)] [] (I, L, ab_RR, n, nc, ns) res) : ab_E w (d + 1) mt_M_pricesOf 30 [.ref mx, .int v1, .int v2, .int v3] [.int s1, .int s0] (I, L, ab_RR, n, nc, ns) res := by
  refine ab_iadd d_M_pricesOf_30 ?_
  refine ab_istore_n (i := 2) d_M_pricesOf_31 rfl (by decide) (Or.inr rfl) ?_
  refine ab_iinc (i := 3) (v := (v3 + 1)) d_M_pricesOf_32 rfl rfl (by decide) (Or.inr rfl) ?_
  refine ab_goto (tgt := 4) d_M_pricesOf_35 (by decide) ?_
  exact h
theorem d_M_firm_0 : decode (ab_bc mt_M_firm) 0 = .ok (.aload_n 0, 1) := by decide +kernel
theorem d_M_firm_1 : decode (ab_bc mt_M_firm) 1 = .ok (.iconst 0, 1) := by decide +kernel
theorem d_M_firm_2 : decode (ab_bc mt_M_firm) 2 = .ok (.putfield 108, 3) := by decide +kernel
theorem d_M_firm_5 : decode (ab_bc mt_M_firm) 5 = .ok (.iload_n 1, 1) := by decide +kernel
theorem d_M_firm_6 : decode (ab_bc mt_M_firm) 6 = .ok (.iconst 0, 1) := by decide +kernel
theorem d_M_firm_7 : decode (ab_bc mt_M_firm) 7 = .ok (.iconst 3, 1) := by decide +kernel
theorem d_M_firm_8 : decode (ab_bc mt_M_firm) 8 = .ok (.invokestatic 344, 3) := by decide +kernel
theorem d_M_firm_11 : decode (ab_bc mt_M_firm) 11 = .ok (.ifCond .eq 12, 3) := by decide +kernel
theorem d_M_firm_14 : decode (ab_bc mt_M_firm) 14 = .ok (.iload_n 2, 1) := by decide +kernel
theorem d_M_firm_15 : decode (ab_bc mt_M_firm) 15 = .ok (.iconst 0, 1) := by decide +kernel
theorem d_M_firm_16 : decode (ab_bc mt_M_firm) 16 = .ok (.iconst 2, 1) := by decide +kernel
theorem d_M_firm_17 : decode (ab_bc mt_M_firm) 17 = .ok (.invokestatic 344, 3) := by decide +kernel
theorem d_M_firm_20 : decode (ab_bc mt_M_firm) 20 = .ok (.ifCond .ne 9, 3) := by decide +kernel
theorem d_M_firm_23 : decode (ab_bc mt_M_firm) 23 = .ok (.aload_n 0, 1) := by decide +kernel
theorem d_M_firm_24 : decode (ab_bc mt_M_firm) 24 = .ok (.iconst 1, 1) := by decide +kernel
theorem d_M_firm_25 : decode (ab_bc mt_M_firm) 25 = .ok (.invokevirtual 202, 3) := by decide +kernel
theorem d_M_firm_28 : decode (ab_bc mt_M_firm) 28 = .ok (.ireturn, 1) := by decide +kernel
theorem d_M_firm_29 : decode (ab_bc mt_M_firm) 29 = .ok (.aload_n 0, 1) := by decide +kernel
theorem d_M_firm_30 : decode (ab_bc mt_M_firm) 30 = .ok (.iload_n 1, 1) := by decide +kernel
theorem d_M_firm_31 : decode (ab_bc mt_M_firm) 31 = .ok (.invokevirtual 416, 3) := by decide +kernel
theorem d_M_firm_34 : decode (ab_bc mt_M_firm) 34 = .ok (.istore_n 3, 1) := by decide +kernel
theorem d_M_firm_35 : decode (ab_bc mt_M_firm) 35 = .ok (.iload_n 2, 1) := by decide +kernel
theorem d_M_firm_36 : decode (ab_bc mt_M_firm) 36 = .ok (.iconst 2, 1) := by decide +kernel
theorem d_M_firm_37 : decode (ab_bc mt_M_firm) 37 = .ok (.if_icmp .ge 22, 3) := by decide +kernel
theorem d_M_firm_40 : decode (ab_bc mt_M_firm) 40 = .ok (.iload_n 2, 1) := by decide +kernel
theorem d_M_firm_41 : decode (ab_bc mt_M_firm) 41 = .ok (.ifCond .ne 7, 3) := by decide +kernel
theorem d_M_firm_44 : decode (ab_bc mt_M_firm) 44 = .ok (.iload_n 3, 1) := by decide +kernel
theorem d_M_firm_45 : decode (ab_bc mt_M_firm) 45 = .ok (.goto 13, 3) := by decide +kernel
theorem d_M_firm_48 : decode (ab_bc mt_M_firm) 48 = .ok (.aload_n 0, 1) := by decide +kernel
theorem d_M_firm_49 : decode (ab_bc mt_M_firm) 49 = .ok (.iload_n 3, 1) := by decide +kernel
theorem d_M_firm_50 : decode (ab_bc mt_M_firm) 50 = .ok (.aload_n 0, 1) := by decide +kernel
theorem d_M_firm_51 : decode (ab_bc mt_M_firm) 51 = .ok (.invokevirtual 251, 3) := by decide +kernel
theorem d_M_firm_54 : decode (ab_bc mt_M_firm) 54 = .ok (.iand, 1) := by decide +kernel
theorem d_M_firm_55 : decode (ab_bc mt_M_firm) 55 = .ok (.invokevirtual 419, 3) := by decide +kernel
theorem d_M_firm_58 : decode (ab_bc mt_M_firm) 58 = .ok (.ireturn, 1) := by decide +kernel
theorem d_M_firm_59 : decode (ab_bc mt_M_firm) 59 = .ok (.aload_n 0, 1) := by decide +kernel
theorem d_M_firm_60 : decode (ab_bc mt_M_firm) 60 = .ok (.iload_n 3, 1) := by decide +kernel
theorem d_M_firm_61 : decode (ab_bc mt_M_firm) 61 = .ok (.invokevirtual 338, 3) := by decide +kernel
theorem d_M_firm_64 : decode (ab_bc mt_M_firm) 64 = .ok (.istore 4, 2) := by decide +kernel
theorem d_M_firm_66 : decode (ab_bc mt_M_firm) 66 = .ok (.iload 4, 2) := by decide +kernel
theorem d_M_firm_68 : decode (ab_bc mt_M_firm) 68 = .ok (.iconst (-1), 1) := by decide +kernel
theorem d_M_firm_69 : decode (ab_bc mt_M_firm) 69 = .ok (.if_icmp .ne 7, 3) := by decide +kernel
theorem d_M_firm_72 : decode (ab_bc mt_M_firm) 72 = .ok (.iconst (-1), 1) := by decide +kernel
theorem d_M_firm_73 : decode (ab_bc mt_M_firm) 73 = .ok (.goto 16, 3) := by decide +kernel
theorem d_M_firm_76 : decode (ab_bc mt_M_firm) 76 = .ok (.iload 4, 2) := by decide +kernel
theorem d_M_firm_78 : decode (ab_bc mt_M_firm) 78 = .ok (.aload_n 0, 1) := by decide +kernel
theorem d_M_firm_79 : decode (ab_bc mt_M_firm) 79 = .ok (.iload_n 3, 1) := by decide +kernel
theorem d_M_firm_80 : decode (ab_bc mt_M_firm) 80 = .ok (.aload_n 0, 1) := by decide +kernel
theorem d_M_firm_81 : decode (ab_bc mt_M_firm) 81 = .ok (.invokevirtual 251, 3) := by decide +kernel
theorem d_M_firm_84 : decode (ab_bc mt_M_firm) 84 = .ok (.iand, 1) := by decide +kernel
theorem d_M_firm_85 : decode (ab_bc mt_M_firm) 85 = .ok (.invokevirtual 419, 3) := by decide +kernel
theorem d_M_firm_88 : decode (ab_bc mt_M_firm) 88 = .ok (.iadd, 1) := by decide +kernel
theorem d_M_firm_89 : decode (ab_bc mt_M_firm) 89 = .ok (.ireturn, 1) := by decide +kernel
-- CableKeeperModel.firm(II)I over mx
theorem q_M_firm_0 {w : ab_Wd} {d n nc ns : Nat} {I : Nat → Nat → Int32} {L : Nat → Nat → Int64} {res : ab_Re} (v1 : Int32) (v2 : Int32) (hc : nc ≤ res.2.2.2.2.2.1) (hs : ns ≤ res.2.2.2.2.2.2)
    (h : ∃ (r1 : Int32), ab_C w d mt_M_isIn [.int v1, .int 0, .int 3] ((ab_up I mx 1 0), L, ab_RR, n, nc, ns) (.inl (some (.int r1)), ((ab_up I mx 1 0), L, ab_RR, n, nc, ns)) ∧ ((r1 = 0 → (ab_E w (d + 1) mt_M_firm 23 [.ref mx, .int v1, .int v2, .null, .null] [] ((ab_up I mx 1 0), L, ab_RR, n, nc, ns) res)) ∧ (¬ r1 = 0 → (∃ (r3 : Int32), ab_C w d mt_M_isIn [.int v2, .int 0, .int 2] ((ab_up I mx 1 0), L, ab_RR, n, nc, ns) (.inl (some (.int r3)), ((ab_up I mx 1 0), L, ab_RR, n, nc, ns)) ∧ ((¬ r3 = 0 → (∃ (r5 : Int32), ab_C w d mt_M_soundOf [.ref mx, .int v1] ((ab_up I mx 1 0), L, ab_RR, n, nc, ns) (.inl (some (.int r5)), ((ab_up I mx 1 0), L, ab_RR, n, nc, ns)) ∧ ((2 ≤ v2 → (∃ (r7 : Int32) (I8 : Nat → Nat → Int32), ab_C w d mt_M_lossOf [.ref mx, .int r5] ((ab_up I mx 1 0), L, ab_RR, n, nc, ns) (.inl (some (.int r7)), (I8, L, ab_RR, n, nc, ns)) ∧ ((¬ r7 = (-1) → (∃ (r10 : Int32) (I11 : Nat → Nat → Int32), ab_C w d mt_M_netNow [.ref mx] (I8, L, ab_RR, n, nc, ns) (.inl (some (.int r10)), (I11, L, ab_RR, n, nc, ns)) ∧ ∃ (r12 : Int32), ab_C w d mt_M_pricesOf [.ref mx, .int (r5 &&& r10)] (I11, L, ab_RR, n, nc, ns) (.inl (some (.int r12)), (I11, L, ab_RR, n, nc, ns)) ∧ ab_E w (d + 1) mt_M_firm 89 [.ref mx, .int v1, .int v2, .int r5, .int r7] [.int (r7 + r12)] (I11, L, ab_RR, n, nc, ns) res)) ∧ (r7 = (-1) → (ab_E w (d + 1) mt_M_firm 89 [.ref mx, .int v1, .int v2, .int r5, .int r7] [.int (-1)] (I8, L, ab_RR, n, nc, ns) res))))) ∧ (¬ 2 ≤ v2 → ((¬ v2 = 0 → (∃ (r14 : Int32) (I15 : Nat → Nat → Int32), ab_C w d mt_M_netNow [.ref mx] ((ab_up I mx 1 0), L, ab_RR, n, nc, ns) (.inl (some (.int r14)), (I15, L, ab_RR, n, nc, ns)) ∧ ∃ (r16 : Int32), ab_C w d mt_M_pricesOf [.ref mx, .int (r5 &&& r14)] (I15, L, ab_RR, n, nc, ns) (.inl (some (.int r16)), (I15, L, ab_RR, n, nc, ns)) ∧ ab_E w (d + 1) mt_M_firm 58 [.ref mx, .int v1, .int v2, .int r5, .null] [.int r16] (I15, L, ab_RR, n, nc, ns) res)) ∧ (v2 = 0 → (ab_E w (d + 1) mt_M_firm 58 [.ref mx, .int v1, .int v2, .int r5, .null] [.int r5] ((ab_up I mx 1 0), L, ab_RR, n, nc, ns) res))))))) ∧ (r3 = 0 → (ab_E w (d + 1) mt_M_firm 23 [.ref mx, .int v1, .int v2, .null, .null] [] ((ab_up I mx 1 0), L, ab_RR, n, nc, ns) res))))))) : ab_E w (d + 1) mt_M_firm 0 [.ref mx, .int v1, .int v2, .null, .null] [] (I, L, ab_RR, n, nc, ns) res := by
  refine ab_aload_n (i := 0) d_M_firm_0 rfl rfl ?_
  refine ab_iconst (v := 0) d_M_firm_1 rfl ?_
  refine ab_putI (ci := 11) (k := 1) d_M_firm_2 v_1369 rfl (by decide) (by decide) rfl (Or.inl rfl) rfl rfl ?_
  refine ab_iload_n (i := 1) d_M_firm_5 rfl rfl ?_
  refine ab_iconst (v := 0) d_M_firm_6 rfl ?_
  refine ab_iconst (v := 3) d_M_firm_7 rfl ?_
  obtain ⟨r1, hC, h⟩ := h
  refine ab_callS (me2 := mt_M_isIn) (as := [.int v1, .int 0, .int 3]) (st := []) (rv := (some (.int r1))) (M2 := ((ab_up I mx 1 0), L, ab_RR, n, nc, ns)) d_M_firm_8 ce_M_isIn ⟨v_1753, Or.inl v_1752⟩ (Nat.le_of_ble_eq_true rfl) hC (Nat.le_refl _) (Nat.le_refl _) hc hs (fun j h9 => by cases h9) (fun _ _ => rfl) ?_
  show ab_E w (d + 1) mt_M_firm 11 [.ref mx, .int v1, .int v2, .null, .null] [.int r1] ((ab_up I mx 1 0), L, ab_RR, n, nc, ns) res
  refine ab_if_eq (tgt := 23) d_M_firm_11 (by decide) (fun c2 => ?_) (fun c2 => ?_)
  · have h := h.1 c2
    exact h
  · have h := h.2 c2
    refine ab_iload_n (i := 2) d_M_firm_14 rfl rfl ?_
    refine ab_iconst (v := 0) d_M_firm_15 rfl ?_
    refine ab_iconst (v := 2) d_M_firm_16 rfl ?_
    obtain ⟨r3, hC, h⟩ := h
    refine ab_callS (me2 := mt_M_isIn) (as := [.int v2, .int 0, .int 2]) (st := []) (rv := (some (.int r3))) (M2 := ((ab_up I mx 1 0), L, ab_RR, n, nc, ns)) d_M_firm_17 ce_M_isIn ⟨v_1753, Or.inl v_1752⟩ (Nat.le_of_ble_eq_true rfl) hC (Nat.le_refl _) (Nat.le_refl _) hc hs (fun j h9 => by cases h9) (fun _ _ => rfl) ?_
    show ab_E w (d + 1) mt_M_firm 20 [.ref mx, .int v1, .int v2, .null, .null] [.int r3] ((ab_up I mx 1 0), L, ab_RR, n, nc, ns) res
    refine ab_if_ne (tgt := 29) d_M_firm_20 (by decide) (fun c4 => ?_) (fun c4 => ?_)
    · have h := h.1 c4
      refine ab_aload_n (i := 0) d_M_firm_29 rfl rfl ?_
      refine ab_iload_n (i := 1) d_M_firm_30 rfl rfl ?_
      obtain ⟨r5, hC, h⟩ := h
      refine ab_callV (me2 := mt_M_soundOf) (b := mx) (as := [.int v1]) (st := []) (rv := (some (.int r5))) (M2 := ((ab_up I mx 1 0), L, ab_RR, n, nc, ns)) d_M_firm_31 ce_M_soundOf v_1867 v_1869 v_123 (by decide) rfl (Nat.le_of_ble_eq_true rfl) hC (Nat.le_refl _) (Nat.le_refl _) hc hs (fun j h9 => by cases h9) (fun _ _ => rfl) ?_
      show ab_E w (d + 1) mt_M_firm 34 [.ref mx, .int v1, .int v2, .null, .null] [.int r5] ((ab_up I mx 1 0), L, ab_RR, n, nc, ns) res
      refine ab_istore_n (i := 3) d_M_firm_34 rfl (by decide) (Or.inr rfl) ?_
      refine ab_iload_n (i := 2) d_M_firm_35 rfl rfl ?_
      refine ab_iconst (v := 2) d_M_firm_36 rfl ?_
      refine ab_icmp_ge (tgt := 59) d_M_firm_37 (by decide) (fun c6 => ?_) (fun c6 => ?_)
      · have h := h.1 c6
        refine ab_aload_n (i := 0) d_M_firm_59 rfl rfl ?_
        refine ab_iload_n (i := 3) d_M_firm_60 rfl rfl ?_
        obtain ⟨r7, I8, hC, h⟩ := h
        refine ab_callV (me2 := mt_M_lossOf) (b := mx) (as := [.int r5]) (st := []) (rv := (some (.int r7))) (M2 := (I8, L, ab_RR, n, nc, ns)) d_M_firm_61 ce_M_lossOf v_1767 v_1769 v_109 (by decide) rfl (Nat.le_of_ble_eq_true rfl) hC (Nat.le_refl _) (Nat.le_refl _) hc hs (fun j h9 => by cases h9) (fun _ _ => rfl) ?_
        show ab_E w (d + 1) mt_M_firm 64 [.ref mx, .int v1, .int v2, .int r5, .null] [.int r7] (I8, L, ab_RR, n, nc, ns) res
        refine ab_istore (i := 4) d_M_firm_64 (by decide) (Or.inr rfl) ?_
        refine ab_iload (i := 4) d_M_firm_66 rfl ?_
        refine ab_iconst (v := (-1)) d_M_firm_68 rfl ?_
        refine ab_icmp_ne (tgt := 76) d_M_firm_69 (by decide) (fun c9 => ?_) (fun c9 => ?_)
        · have h := h.1 c9
          refine ab_iload (i := 4) d_M_firm_76 rfl ?_
          refine ab_aload_n (i := 0) d_M_firm_78 rfl rfl ?_
          refine ab_iload_n (i := 3) d_M_firm_79 rfl rfl ?_
          refine ab_aload_n (i := 0) d_M_firm_80 rfl rfl ?_
          obtain ⟨r10, I11, hC, h⟩ := h
          refine ab_callV (me2 := mt_M_netNow) (b := mx) (as := []) (st := [.int r5, .ref mx, .int r7]) (rv := (some (.int r10))) (M2 := (I11, L, ab_RR, n, nc, ns)) d_M_firm_81 ce_M_netNow v_1639 v_1641 v_80 (by decide) rfl (Nat.le_of_ble_eq_true rfl) hC (Nat.le_refl _) (Nat.le_refl _) hc hs (fun j h9 => by cases h9) (fun _ _ => rfl) ?_
          show ab_E w (d + 1) mt_M_firm 84 [.ref mx, .int v1, .int v2, .int r5, .int r7] [.int r10, .int r5, .ref mx, .int r7] (I11, L, ab_RR, n, nc, ns) res
          refine ab_iand d_M_firm_84 ?_
          obtain ⟨r12, hC, h⟩ := h
          refine ab_callV (me2 := mt_M_pricesOf) (b := mx) (as := [.int (r5 &&& r10)]) (st := [.int r7]) (rv := (some (.int r12))) (M2 := (I11, L, ab_RR, n, nc, ns)) d_M_firm_85 ce_M_pricesOf v_1871 v_1873 v_124 (by decide) rfl (Nat.le_of_ble_eq_true rfl) hC (Nat.le_refl _) (Nat.le_refl _) hc hs (fun j h9 => by cases h9) (fun _ _ => rfl) ?_
          show ab_E w (d + 1) mt_M_firm 88 [.ref mx, .int v1, .int v2, .int r5, .int r7] [.int r12, .int r7] (I11, L, ab_RR, n, nc, ns) res
          refine ab_iadd d_M_firm_88 ?_
          exact h
        · have h := h.2 c9
          refine ab_iconst (v := (-1)) d_M_firm_72 rfl ?_
          refine ab_goto (tgt := 89) d_M_firm_73 (by decide) ?_
          exact h
      · have h := h.2 c6
        refine ab_iload_n (i := 2) d_M_firm_40 rfl rfl ?_
        refine ab_if_ne (tgt := 48) d_M_firm_41 (by decide) (fun c13 => ?_) (fun c13 => ?_)
        · have h := h.1 c13
          refine ab_aload_n (i := 0) d_M_firm_48 rfl rfl ?_
          refine ab_iload_n (i := 3) d_M_firm_49 rfl rfl ?_
          refine ab_aload_n (i := 0) d_M_firm_50 rfl rfl ?_
          obtain ⟨r14, I15, hC, h⟩ := h
          refine ab_callV (me2 := mt_M_netNow) (b := mx) (as := []) (st := [.int r5, .ref mx]) (rv := (some (.int r14))) (M2 := (I15, L, ab_RR, n, nc, ns)) d_M_firm_51 ce_M_netNow v_1639 v_1641 v_80 (by decide) rfl (Nat.le_of_ble_eq_true rfl) hC (Nat.le_refl _) (Nat.le_refl _) hc hs (fun j h9 => by cases h9) (fun _ _ => rfl) ?_
          show ab_E w (d + 1) mt_M_firm 54 [.ref mx, .int v1, .int v2, .int r5, .null] [.int r14, .int r5, .ref mx] (I15, L, ab_RR, n, nc, ns) res
          refine ab_iand d_M_firm_54 ?_
          obtain ⟨r16, hC, h⟩ := h
          refine ab_callV (me2 := mt_M_pricesOf) (b := mx) (as := [.int (r5 &&& r14)]) (st := []) (rv := (some (.int r16))) (M2 := (I15, L, ab_RR, n, nc, ns)) d_M_firm_55 ce_M_pricesOf v_1871 v_1873 v_124 (by decide) rfl (Nat.le_of_ble_eq_true rfl) hC (Nat.le_refl _) (Nat.le_refl _) hc hs (fun j h9 => by cases h9) (fun _ _ => rfl) ?_
          show ab_E w (d + 1) mt_M_firm 58 [.ref mx, .int v1, .int v2, .int r5, .null] [.int r16] (I15, L, ab_RR, n, nc, ns) res
          exact h
        · have h := h.2 c13
          refine ab_iload_n (i := 3) d_M_firm_44 rfl rfl ?_
          refine ab_goto (tgt := 58) d_M_firm_45 (by decide) ?_
          exact h
    · have h := h.2 c4
      exact h
theorem q_M_firm_23 {w : ab_Wd} {d n nc ns : Nat} {I : Nat → Nat → Int32} {L : Nat → Nat → Int64} {res : ab_Re} (v1 : Int32) (v2 : Int32) (hc : nc ≤ res.2.2.2.2.2.1) (hs : ns ≤ res.2.2.2.2.2.2)
    (h : ∃ (r1 : Int32) (I2 : Nat → Nat → Int32), ab_C w d mt_M_fail [.ref mx, .int 1] (I, L, ab_RR, n, nc, ns) (.inl (some (.int r1)), (I2, L, ab_RR, n, nc, ns)) ∧ res = (.inl (some (.int r1)), (I2, L, ab_RR, n, nc, ns))) : ab_E w (d + 1) mt_M_firm 23 [.ref mx, .int v1, .int v2, .null, .null] [] (I, L, ab_RR, n, nc, ns) res := by
  refine ab_aload_n (i := 0) d_M_firm_23 rfl rfl ?_
  refine ab_iconst (v := 1) d_M_firm_24 rfl ?_
  obtain ⟨r1, I2, hC, h⟩ := h
  refine ab_callV (me2 := mt_M_fail) (b := mx) (as := [.int 1]) (st := []) (rv := (some (.int r1))) (M2 := (I2, L, ab_RR, n, nc, ns)) d_M_firm_25 ce_M_fail v_1562 v_1564 v_66 (by decide) rfl (Nat.le_of_ble_eq_true rfl) hC (Nat.le_refl _) (Nat.le_refl _) hc hs (fun j h9 => by cases h9) (fun _ _ => rfl) ?_
  show ab_E w (d + 1) mt_M_firm 28 [.ref mx, .int v1, .int v2, .null, .null] [.int r1] (I2, L, ab_RR, n, nc, ns) res
  exact ab_iret (ty := .int) d_M_firm_28 rfl rfl h
theorem q_M_firm_58 {w : ab_Wd} {d n nc ns : Nat} {I : Nat → Nat → Int32} {L : Nat → Nat → Int64} {res : ab_Re} (v1 : Int32) (v2 : Int32) (v3 : Int32) (s0 : Int32) (hc : nc ≤ res.2.2.2.2.2.1) (hs : ns ≤ res.2.2.2.2.2.2)
    (h : res = (.inl (some (.int s0)), (I, L, ab_RR, n, nc, ns))) : ab_E w (d + 1) mt_M_firm 58 [.ref mx, .int v1, .int v2, .int v3, .null] [.int s0] (I, L, ab_RR, n, nc, ns) res := by
  exact ab_iret (ty := .int) d_M_firm_58 rfl rfl h
theorem q_M_firm_89 {w : ab_Wd} {d n nc ns : Nat} {I : Nat → Nat → Int32} {L : Nat → Nat → Int64} {res : ab_Re} (v1 : Int32) (v2 : Int32) (v3 : Int32) (v4 : Int32) (s0 : Int32) (hc : nc ≤ res.2.2.2.2.2.1) (hs : ns ≤ res.2.2.2.2.2.2)
    (h : res = (.inl (some (.int s0)), (I, L, ab_RR, n, nc, ns))) : ab_E w (d + 1) mt_M_firm 89 [.ref mx, .int v1, .int v2, .int v3, .int v4] [.int s0] (I, L, ab_RR, n, nc, ns) res := by
  exact ab_iret (ty := .int) d_M_firm_89 rfl rfl h
theorem d_M_lessens_0 : decode (ab_bc mt_M_lessens) 0 = .ok (.iload_n 2, 1) := by decide +kernel
theorem d_M_lessens_1 : decode (ab_bc mt_M_lessens) 1 = .ok (.aload_n 0, 1) := by decide +kernel
theorem d_M_lessens_2 : decode (ab_bc mt_M_lessens) 2 = .ok (.getfield 78, 3) := by decide +kernel
theorem d_M_lessens_5 : decode (ab_bc mt_M_lessens) 5 = .ok (.iload_n 1, 1) := by decide +kernel
theorem d_M_lessens_6 : decode (ab_bc mt_M_lessens) 6 = .ok (.iaload, 1) := by decide +kernel
theorem d_M_lessens_7 : decode (ab_bc mt_M_lessens) 7 = .ok (.if_icmp .lt 5, 3) := by decide +kernel
theorem d_M_lessens_10 : decode (ab_bc mt_M_lessens) 10 = .ok (.iconst 0, 1) := by decide +kernel
theorem d_M_lessens_11 : decode (ab_bc mt_M_lessens) 11 = .ok (.ireturn, 1) := by decide +kernel
theorem d_M_lessens_12 : decode (ab_bc mt_M_lessens) 12 = .ok (.aload_n 0, 1) := by decide +kernel
theorem d_M_lessens_13 : decode (ab_bc mt_M_lessens) 13 = .ok (.getfield 78, 3) := by decide +kernel
theorem d_M_lessens_16 : decode (ab_bc mt_M_lessens) 16 = .ok (.iload_n 1, 1) := by decide +kernel
theorem d_M_lessens_17 : decode (ab_bc mt_M_lessens) 17 = .ok (.iload_n 2, 1) := by decide +kernel
theorem d_M_lessens_18 : decode (ab_bc mt_M_lessens) 18 = .ok (.iastore, 1) := by decide +kernel
theorem d_M_lessens_19 : decode (ab_bc mt_M_lessens) 19 = .ok (.iconst 1, 1) := by decide +kernel
theorem d_M_lessens_20 : decode (ab_bc mt_M_lessens) 20 = .ok (.ireturn, 1) := by decide +kernel
-- CableKeeperModel.lessens(II)Z over mx
theorem q_M_lessens_0 {w : ab_Wd} {d n nc ns : Nat} {I : Nat → Nat → Int32} {L : Nat → Nat → Int64} {res : ab_Re} (v1 : Int32) (v2 : Int32) (hc : nc ≤ res.2.2.2.2.2.1) (hs : ns ≤ res.2.2.2.2.2.2)
    (h : (vp_in v1 10240) ∧ ((v2 < (I mx_joint v1.toNatClampNeg) → (res = (.inl (some (.int 1)), ((ab_up I mx_joint v1.toNatClampNeg v2), L, ab_RR, n, nc, ns)))) ∧ (¬ v2 < (I mx_joint v1.toNatClampNeg) → (res = (.inl (some (.int 0)), (I, L, ab_RR, n, nc, ns)))))) : ab_E w d mt_M_lessens 0 [.ref mx, .int v1, .int v2] [] (I, L, ab_RR, n, nc, ns) res := by
  refine ab_iload_n (i := 2) d_M_lessens_0 rfl rfl ?_
  refine ab_aload_n (i := 0) d_M_lessens_1 rfl rfl ?_
  refine ab_getR (ci := 11) (k := 40) (j := mx_joint) d_M_lessens_2 v_1408 rfl (by decide) (by decide) rfl r_mx_40 ?_
  refine ab_iload_n (i := 1) d_M_lessens_5 rfl rfl ?_
  have g1 := h.1; have h := h.2
  refine ab_iald d_M_lessens_6 rfl rfl g1 ?_
  refine ab_icmp_lt (tgt := 12) d_M_lessens_7 (by decide) (fun c2 => ?_) (fun c2 => ?_)
  · have h := h.1 c2
    refine ab_aload_n (i := 0) d_M_lessens_12 rfl rfl ?_
    refine ab_getR (ci := 11) (k := 40) (j := mx_joint) d_M_lessens_13 v_1408 rfl (by decide) (by decide) rfl r_mx_40 ?_
    refine ab_iload_n (i := 1) d_M_lessens_16 rfl rfl ?_
    refine ab_iload_n (i := 2) d_M_lessens_17 rfl rfl ?_
    refine ab_iast d_M_lessens_18 rfl rfl g1 ?_
    refine ab_iconst (v := 1) d_M_lessens_19 rfl ?_
    exact ab_iret (ty := .boolean) d_M_lessens_20 rfl rfl h
  · have h := h.2 c2
    refine ab_iconst (v := 0) d_M_lessens_10 rfl ?_
    exact ab_iret (ty := .boolean) d_M_lessens_11 rfl rfl h
