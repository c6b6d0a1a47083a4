theorem d_M_readBroken_0 : decode (ab_bc mt_M_readBroken) 0 = .ok (.aload_n 0, 1) := by decide +kernel
theorem d_M_readBroken_1 : decode (ab_bc mt_M_readBroken) 1 = .ok (.invokevirtual 175, 3) := by decide +kernel
theorem d_M_readBroken_4 : decode (ab_bc mt_M_readBroken) 4 = .ok (.aload_n 0, 1) := by decide +kernel
theorem d_M_readBroken_5 : decode (ab_bc mt_M_readBroken) 5 = .ok (.iconst 0, 1) := by decide +kernel
theorem d_M_readBroken_6 : decode (ab_bc mt_M_readBroken) 6 = .ok (.bipush 23, 2) := by decide +kernel
theorem d_M_readBroken_8 : decode (ab_bc mt_M_readBroken) 8 = .ok (.invokevirtual 172, 3) := by decide +kernel
theorem d_M_readBroken_11 : decode (ab_bc mt_M_readBroken) 11 = .ok (.istore_n 1, 1) := by decide +kernel
theorem d_M_readBroken_12 : decode (ab_bc mt_M_readBroken) 12 = .ok (.aload_n 0, 1) := by decide +kernel
theorem d_M_readBroken_13 : decode (ab_bc mt_M_readBroken) 13 = .ok (.getfield 150, 3) := by decide +kernel
theorem d_M_readBroken_16 : decode (ab_bc mt_M_readBroken) 16 = .ok (.ifCond .ne 18, 3) := by decide +kernel
theorem d_M_readBroken_19 : decode (ab_bc mt_M_readBroken) 19 = .ok (.iload_n 1, 1) := by decide +kernel
theorem d_M_readBroken_20 : decode (ab_bc mt_M_readBroken) 20 = .ok (.aload_n 0, 1) := by decide +kernel
theorem d_M_readBroken_21 : decode (ab_bc mt_M_readBroken) 21 = .ok (.getfield 28, 3) := by decide +kernel
theorem d_M_readBroken_24 : decode (ab_bc mt_M_readBroken) 24 = .ok (.iconst 0, 1) := by decide +kernel
theorem d_M_readBroken_25 : decode (ab_bc mt_M_readBroken) 25 = .ok (.iaload, 1) := by decide +kernel
theorem d_M_readBroken_26 : decode (ab_bc mt_M_readBroken) 26 = .ok (.if_icmp .lt 8, 3) := by decide +kernel
theorem d_M_readBroken_29 : decode (ab_bc mt_M_readBroken) 29 = .ok (.aload_n 0, 1) := by decide +kernel
theorem d_M_readBroken_30 : decode (ab_bc mt_M_readBroken) 30 = .ok (.iconst 3, 1) := by decide +kernel
theorem d_M_readBroken_31 : decode (ab_bc mt_M_readBroken) 31 = .ok (.invokevirtual 168, 3) := by decide +kernel
theorem d_M_readBroken_34 : decode (ab_bc mt_M_readBroken) 34 = .ok (.aload_n 0, 1) := by decide +kernel
theorem d_M_readBroken_35 : decode (ab_bc mt_M_readBroken) 35 = .ok (.getfield 150, 3) := by decide +kernel
theorem d_M_readBroken_38 : decode (ab_bc mt_M_readBroken) 38 = .ok (.ifCond .ne 21, 3) := by decide +kernel
theorem d_M_readBroken_41 : decode (ab_bc mt_M_readBroken) 41 = .ok (.aload_n 0, 1) := by decide +kernel
theorem d_M_readBroken_42 : decode (ab_bc mt_M_readBroken) 42 = .ok (.getfield 28, 3) := by decide +kernel
theorem d_M_readBroken_45 : decode (ab_bc mt_M_readBroken) 45 = .ok (.iconst 1, 1) := by decide +kernel
theorem d_M_readBroken_46 : decode (ab_bc mt_M_readBroken) 46 = .ok (.iaload, 1) := by decide +kernel
theorem d_M_readBroken_47 : decode (ab_bc mt_M_readBroken) 47 = .ok (.iload_n 1, 1) := by decide +kernel
theorem d_M_readBroken_48 : decode (ab_bc mt_M_readBroken) 48 = .ok (.ishr, 1) := by decide +kernel
theorem d_M_readBroken_49 : decode (ab_bc mt_M_readBroken) 49 = .ok (.iconst 1, 1) := by decide +kernel
theorem d_M_readBroken_50 : decode (ab_bc mt_M_readBroken) 50 = .ok (.iand, 1) := by decide +kernel
theorem d_M_readBroken_51 : decode (ab_bc mt_M_readBroken) 51 = .ok (.ifCond .ne 8, 3) := by decide +kernel
theorem d_M_readBroken_54 : decode (ab_bc mt_M_readBroken) 54 = .ok (.aload_n 0, 1) := by decide +kernel
theorem d_M_readBroken_55 : decode (ab_bc mt_M_readBroken) 55 = .ok (.iconst 4, 1) := by decide +kernel
theorem d_M_readBroken_56 : decode (ab_bc mt_M_readBroken) 56 = .ok (.invokevirtual 168, 3) := by decide +kernel
theorem d_M_readBroken_59 : decode (ab_bc mt_M_readBroken) 59 = .ok (.aload_n 0, 1) := by decide +kernel
theorem d_M_readBroken_60 : decode (ab_bc mt_M_readBroken) 60 = .ok (.getfield 150, 3) := by decide +kernel
theorem d_M_readBroken_63 : decode (ab_bc mt_M_readBroken) 63 = .ok (.ifCond .eq 4, 3) := by decide +kernel
theorem d_M_readBroken_66 : decode (ab_bc mt_M_readBroken) 66 = .ok (.return_, 1) := by decide +kernel
theorem d_M_readBroken_67 : decode (ab_bc mt_M_readBroken) 67 = .ok (.aload_n 0, 1) := by decide +kernel
theorem d_M_readBroken_68 : decode (ab_bc mt_M_readBroken) 68 = .ok (.invokevirtual 175, 3) := by decide +kernel
theorem d_M_readBroken_71 : decode (ab_bc mt_M_readBroken) 71 = .ok (.aload_n 0, 1) := by decide +kernel
theorem d_M_readBroken_72 : decode (ab_bc mt_M_readBroken) 72 = .ok (.getfield 28, 3) := by decide +kernel
theorem d_M_readBroken_75 : decode (ab_bc mt_M_readBroken) 75 = .ok (.iconst 1, 1) := by decide +kernel
theorem d_M_readBroken_76 : decode (ab_bc mt_M_readBroken) 76 = .ok (.dup2, 1) := by decide +kernel
theorem d_M_readBroken_77 : decode (ab_bc mt_M_readBroken) 77 = .ok (.iaload, 1) := by decide +kernel
theorem d_M_readBroken_78 : decode (ab_bc mt_M_readBroken) 78 = .ok (.iconst 1, 1) := by decide +kernel
theorem d_M_readBroken_79 : decode (ab_bc mt_M_readBroken) 79 = .ok (.iload_n 1, 1) := by decide +kernel
theorem d_M_readBroken_80 : decode (ab_bc mt_M_readBroken) 80 = .ok (.ishl, 1) := by decide +kernel
theorem d_M_readBroken_81 : decode (ab_bc mt_M_readBroken) 81 = .ok (.iconst (-1), 1) := by decide +kernel
theorem d_M_readBroken_82 : decode (ab_bc mt_M_readBroken) 82 = .ok (.ixor, 1) := by decide +kernel
theorem d_M_readBroken_83 : decode (ab_bc mt_M_readBroken) 83 = .ok (.iand, 1) := by decide +kernel
theorem d_M_readBroken_84 : decode (ab_bc mt_M_readBroken) 84 = .ok (.iastore, 1) := by decide +kernel
theorem d_M_readBroken_85 : decode (ab_bc mt_M_readBroken) 85 = .ok (.return_, 1) := by decide +kernel
-- CableKeeperModel.readBroken()V over mx
theorem q_M_readBroken_0 {w : ab_Wd} {d n nc ns : Nat} {I : Nat → Nat → Int32} {L : Nat → Nat → Int64} {res : ab_Re}  (hc : nc ≤ res.2.2.2.2.2.1) (hs : ns ≤ res.2.2.2.2.2.2)
    (h : ∃ (I2 : Nat → Nat → Int32), ab_C w d mt_M_stepOn [.ref mx] (I, L, ab_RR, n, nc, ns) (.inl none, (I2, L, ab_RR, n, nc, ns)) ∧ ∃ (r3 : Int32) (I4 : Nat → Nat → Int32), ab_C w d mt_M_numberNow [.ref mx, .int 0, .int 23] (I2, L, ab_RR, n, nc, ns) (.inl (some (.int r3)), (I4, L, ab_RR, n, nc, ns)) ∧ ((¬ (I4 mx 15) = 0 → (ab_E w (d + 1) mt_M_readBroken 34 [.ref mx, .int r3] [] (I4, L, ab_RR, n, nc, ns) res)) ∧ ((I4 mx 15) = 0 → ((r3 < (I4 mx_reading 0) → (ab_E w (d + 1) mt_M_readBroken 34 [.ref mx, .int r3] [] (I4, L, ab_RR, n, nc, ns) res)) ∧ (¬ r3 < (I4 mx_reading 0) → (∃ (I8 : Nat → Nat → Int32), ab_C w d mt_M_wrong [.ref mx, .int 3] (I4, L, ab_RR, n, nc, ns) (.inl none, (I8, L, ab_RR, n, nc, ns)) ∧ ab_E w (d + 1) mt_M_readBroken 34 [.ref mx, .int r3] [] (I8, L, ab_RR, n, nc, ns) res)))))) : ab_E w (d + 1) mt_M_readBroken 0 [.ref mx, .null] [] (I, L, ab_RR, n, nc, ns) res := by
  refine ab_aload_n (i := 0) d_M_readBroken_0 rfl rfl ?_
  obtain ⟨I2, hC, h⟩ := h
  refine ab_callV (me2 := mt_M_stepOn) (b := mx) (as := []) (st := []) (rv := none) (M2 := (I2, L, ab_RR, n, nc, ns)) d_M_readBroken_1 ce_M_stepOn v_1566 v_1568 v_67 (by decide) rfl (Nat.le_of_ble_eq_true rfl) hC (Nat.le_refl _) (Nat.le_refl _) hc hs (fun j h9 => by cases h9) (fun _ _ => rfl) ?_
  show ab_E w (d + 1) mt_M_readBroken 4 [.ref mx, .null] [] (I2, L, ab_RR, n, nc, ns) res
  refine ab_aload_n (i := 0) d_M_readBroken_4 rfl rfl ?_
  refine ab_iconst (v := 0) d_M_readBroken_5 rfl ?_
  refine ab_bipush (v := 23) d_M_readBroken_6 rfl ?_
  obtain ⟨r3, I4, hC, h⟩ := h
  refine ab_callV (me2 := mt_M_numberNow) (b := mx) (as := [.int 0, .int 23]) (st := []) (rv := (some (.int r3))) (M2 := (I4, L, ab_RR, n, nc, ns)) d_M_readBroken_8 ce_M_numberNow v_1608 v_1610 v_75 (by decide) rfl (Nat.le_of_ble_eq_true rfl) hC (Nat.le_refl _) (Nat.le_refl _) hc hs (fun j h9 => by cases h9) (fun _ _ => rfl) ?_
  show ab_E w (d + 1) mt_M_readBroken 11 [.ref mx, .null] [.int r3] (I4, L, ab_RR, n, nc, ns) res
  refine ab_istore_n (i := 1) d_M_readBroken_11 rfl (by decide) (Or.inr rfl) ?_
  refine ab_aload_n (i := 0) d_M_readBroken_12 rfl rfl ?_
  refine ab_getI (ci := 11) (k := 15) d_M_readBroken_13 v_1383 rfl (by decide) (by decide) rfl ?_
  refine ab_if_ne (tgt := 34) d_M_readBroken_16 (by decide) (fun c5 => ?_) (fun c5 => ?_)
  · have h := h.1 c5
    exact h
  · have h := h.2 c5
    refine ab_iload_n (i := 1) d_M_readBroken_19 rfl rfl ?_
    refine ab_aload_n (i := 0) d_M_readBroken_20 rfl rfl ?_
    refine ab_getR (ci := 11) (k := 5) (j := mx_reading) d_M_readBroken_21 v_1373 rfl (by decide) (by decide) rfl r_mx_5 ?_
    refine ab_iconst (v := 0) d_M_readBroken_24 rfl ?_
    refine ab_iald d_M_readBroken_25 rfl rfl (by unfold vp_in; decide) ?_
    refine ab_icmp_lt (tgt := 34) d_M_readBroken_26 (by decide) (fun c6 => ?_) (fun c6 => ?_)
    · have h := h.1 c6
      exact h
    · have h := h.2 c6
      refine ab_aload_n (i := 0) d_M_readBroken_29 rfl rfl ?_
      refine ab_iconst (v := 3) d_M_readBroken_30 rfl ?_
      obtain ⟨I8, hC, h⟩ := h
      refine ab_callV (me2 := mt_M_wrong) (b := mx) (as := [.int 3]) (st := []) (rv := none) (M2 := (I8, L, ab_RR, n, nc, ns)) d_M_readBroken_31 ce_M_wrong v_1596 v_1598 v_72 (by decide) rfl (Nat.le_of_ble_eq_true rfl) hC (Nat.le_refl _) (Nat.le_refl _) hc hs (fun j h9 => by cases h9) (fun _ _ => rfl) ?_
      show ab_E w (d + 1) mt_M_readBroken 34 [.ref mx, .int r3] [] (I8, L, ab_RR, n, nc, ns) res
      exact h
theorem q_M_readBroken_34 {w : ab_Wd} {d n nc ns : Nat} {I : Nat → Nat → Int32} {L : Nat → Nat → Int64} {res : ab_Re} (v1 : Int32) (hc : nc ≤ res.2.2.2.2.2.1) (hs : ns ≤ res.2.2.2.2.2.2)
    (h : ((¬ (I mx 15) = 0 → (ab_E w (d + 1) mt_M_readBroken 59 [.ref mx, .int v1] [] (I, L, ab_RR, n, nc, ns) res)) ∧ ((I mx 15) = 0 → ((¬ (((I mx_reading 1) >>> (v1 &&& 31)) &&& 1) = 0 → (ab_E w (d + 1) mt_M_readBroken 59 [.ref mx, .int v1] [] (I, L, ab_RR, n, nc, ns) res)) ∧ ((((I mx_reading 1) >>> (v1 &&& 31)) &&& 1) = 0 → (∃ (I4 : Nat → Nat → Int32), ab_C w d mt_M_wrong [.ref mx, .int 4] (I, L, ab_RR, n, nc, ns) (.inl none, (I4, L, ab_RR, n, nc, ns)) ∧ ab_E w (d + 1) mt_M_readBroken 59 [.ref mx, .int v1] [] (I4, L, ab_RR, n, nc, ns) res)))))) : ab_E w (d + 1) mt_M_readBroken 34 [.ref mx, .int v1] [] (I, L, ab_RR, n, nc, ns) res := by
  refine ab_aload_n (i := 0) d_M_readBroken_34 rfl rfl ?_
  refine ab_getI (ci := 11) (k := 15) d_M_readBroken_35 v_1383 rfl (by decide) (by decide) rfl ?_
  refine ab_if_ne (tgt := 59) d_M_readBroken_38 (by decide) (fun c1 => ?_) (fun c1 => ?_)
  · have h := h.1 c1
    exact h
  · have h := h.2 c1
    refine ab_aload_n (i := 0) d_M_readBroken_41 rfl rfl ?_
    refine ab_getR (ci := 11) (k := 5) (j := mx_reading) d_M_readBroken_42 v_1373 rfl (by decide) (by decide) rfl r_mx_5 ?_
    refine ab_iconst (v := 1) d_M_readBroken_45 rfl ?_
    refine ab_iald d_M_readBroken_46 rfl rfl (by unfold vp_in; decide) ?_
    refine ab_iload_n (i := 1) d_M_readBroken_47 rfl rfl ?_
    refine ab_ishr d_M_readBroken_48 ?_
    refine ab_iconst (v := 1) d_M_readBroken_49 rfl ?_
    refine ab_iand d_M_readBroken_50 ?_
    refine ab_if_ne (tgt := 59) d_M_readBroken_51 (by decide) (fun c2 => ?_) (fun c2 => ?_)
    · have h := h.1 c2
      exact h
    · have h := h.2 c2
      refine ab_aload_n (i := 0) d_M_readBroken_54 rfl rfl ?_
      refine ab_iconst (v := 4) d_M_readBroken_55 rfl ?_
      obtain ⟨I4, hC, h⟩ := h
      refine ab_callV (me2 := mt_M_wrong) (b := mx) (as := [.int 4]) (st := []) (rv := none) (M2 := (I4, L, ab_RR, n, nc, ns)) d_M_readBroken_56 ce_M_wrong v_1596 v_1598 v_72 (by decide) rfl (Nat.le_of_ble_eq_true rfl) hC (Nat.le_refl _) (Nat.le_refl _) hc hs (fun j h9 => by cases h9) (fun _ _ => rfl) ?_
      show ab_E w (d + 1) mt_M_readBroken 59 [.ref mx, .int v1] [] (I4, L, ab_RR, n, nc, ns) res
      exact h
theorem q_M_readBroken_59 {w : ab_Wd} {d n nc ns : Nat} {I : Nat → Nat → Int32} {L : Nat → Nat → Int64} {res : ab_Re} (v1 : Int32) (hc : nc ≤ res.2.2.2.2.2.1) (hs : ns ≤ res.2.2.2.2.2.2)
    (h : (((I mx 15) = 0 → (∃ (I3 : Nat → Nat → Int32), ab_C w d mt_M_stepOn [.ref mx] (I, L, ab_RR, n, nc, ns) (.inl none, (I3, L, ab_RR, n, nc, ns)) ∧ res = (.inl none, ((ab_up I3 mx_reading 1 ((I3 mx_reading 1) &&& (((1 : Int32) <<< (v1 &&& 31)) ^^^ (-1)))), L, ab_RR, n, nc, ns)))) ∧ (¬ (I mx 15) = 0 → (res = (.inl none, (I, L, ab_RR, n, nc, ns)))))) : ab_E w (d + 1) mt_M_readBroken 59 [.ref mx, .int v1] [] (I, L, ab_RR, n, nc, ns) res := by
  refine ab_aload_n (i := 0) d_M_readBroken_59 rfl rfl ?_
  refine ab_getI (ci := 11) (k := 15) d_M_readBroken_60 v_1383 rfl (by decide) (by decide) rfl ?_
  refine ab_if_eq (tgt := 67) d_M_readBroken_63 (by decide) (fun c1 => ?_) (fun c1 => ?_)
  · have h := h.1 c1
    refine ab_aload_n (i := 0) d_M_readBroken_67 rfl rfl ?_
    obtain ⟨I3, hC, h⟩ := h
    refine ab_callV (me2 := mt_M_stepOn) (b := mx) (as := []) (st := []) (rv := none) (M2 := (I3, L, ab_RR, n, nc, ns)) d_M_readBroken_68 ce_M_stepOn v_1566 v_1568 v_67 (by decide) rfl (Nat.le_of_ble_eq_true rfl) hC (Nat.le_refl _) (Nat.le_refl _) hc hs (fun j h9 => by cases h9) (fun _ _ => rfl) ?_
    show ab_E w (d + 1) mt_M_readBroken 71 [.ref mx, .int v1] [] (I3, L, ab_RR, n, nc, ns) res
    refine ab_aload_n (i := 0) d_M_readBroken_71 rfl rfl ?_
    refine ab_getR (ci := 11) (k := 5) (j := mx_reading) d_M_readBroken_72 v_1373 rfl (by decide) (by decide) rfl r_mx_5 ?_
    refine ab_iconst (v := 1) d_M_readBroken_75 rfl ?_
    refine ab_dup2 d_M_readBroken_76 ?_
    refine ab_iald d_M_readBroken_77 rfl rfl (by unfold vp_in; decide) ?_
    refine ab_iconst (v := 1) d_M_readBroken_78 rfl ?_
    refine ab_iload_n (i := 1) d_M_readBroken_79 rfl rfl ?_
    refine ab_ishl d_M_readBroken_80 ?_
    refine ab_iconst (v := (-1)) d_M_readBroken_81 rfl ?_
    refine ab_ixor d_M_readBroken_82 ?_
    refine ab_iand d_M_readBroken_83 ?_
    refine ab_iast d_M_readBroken_84 rfl rfl (by unfold vp_in; decide) ?_
    exact ab_vret d_M_readBroken_85 rfl h
  · have h := h.2 c1
    exact ab_vret d_M_readBroken_66 rfl h
theorem d_M_readClause_0 : decode (ab_bc mt_M_readClause) 0 = .ok (.aload_n 0, 1) := by decide +kernel
theorem d_M_readClause_1 : decode (ab_bc mt_M_readClause) 1 = .ok (.invokevirtual 190, 3) := by decide +kernel
theorem d_M_readClause_4 : decode (ab_bc mt_M_readClause) 4 = .ok (.istore_n 1, 1) := by decide +kernel
theorem d_M_readClause_5 : decode (ab_bc mt_M_readClause) 5 = .ok (.iload_n 1, 1) := by decide +kernel
theorem d_M_readClause_6 : decode (ab_bc mt_M_readClause) 6 = .ok (.iconst (-1), 1) := by decide +kernel
theorem d_M_readClause_7 : decode (ab_bc mt_M_readClause) 7 = .ok (.if_icmp .ne 8, 3) := by decide +kernel
theorem d_M_readClause_10 : decode (ab_bc mt_M_readClause) 10 = .ok (.aload_n 0, 1) := by decide +kernel
theorem d_M_readClause_11 : decode (ab_bc mt_M_readClause) 11 = .ok (.iconst 1, 1) := by decide +kernel
theorem d_M_readClause_12 : decode (ab_bc mt_M_readClause) 12 = .ok (.invokevirtual 168, 3) := by decide +kernel
theorem d_M_readClause_15 : decode (ab_bc mt_M_readClause) 15 = .ok (.iload_n 1, 1) := by decide +kernel
theorem d_M_readClause_16 : decode (ab_bc mt_M_readClause) 16 = .ok (.ifCond .ne 15, 3) := by decide +kernel
theorem d_M_readClause_19 : decode (ab_bc mt_M_readClause) 19 = .ok (.aload_n 0, 1) := by decide +kernel
theorem d_M_readClause_20 : decode (ab_bc mt_M_readClause) 20 = .ok (.getfield 193, 3) := by decide +kernel
theorem d_M_readClause_23 : decode (ab_bc mt_M_readClause) 23 = .ok (.ifCond .le 8, 3) := by decide +kernel
theorem d_M_readClause_26 : decode (ab_bc mt_M_readClause) 26 = .ok (.aload_n 0, 1) := by decide +kernel
theorem d_M_readClause_27 : decode (ab_bc mt_M_readClause) 27 = .ok (.iconst 4, 1) := by decide +kernel
theorem d_M_readClause_28 : decode (ab_bc mt_M_readClause) 28 = .ok (.invokevirtual 168, 3) := by decide +kernel
theorem d_M_readClause_31 : decode (ab_bc mt_M_readClause) 31 = .ok (.aload_n 0, 1) := by decide +kernel
theorem d_M_readClause_32 : decode (ab_bc mt_M_readClause) 32 = .ok (.getfield 150, 3) := by decide +kernel
theorem d_M_readClause_35 : decode (ab_bc mt_M_readClause) 35 = .ok (.ifCond .eq 4, 3) := by decide +kernel
theorem d_M_readClause_38 : decode (ab_bc mt_M_readClause) 38 = .ok (.return_, 1) := by decide +kernel
theorem d_M_readClause_39 : decode (ab_bc mt_M_readClause) 39 = .ok (.iload_n 1, 1) := by decide +kernel
theorem d_M_readClause_40 : decode (ab_bc mt_M_readClause) 40 = .ok (.iconst 1, 1) := by decide +kernel
theorem d_M_readClause_41 : decode (ab_bc mt_M_readClause) 41 = .ok (.if_icmp .ne 10, 3) := by decide +kernel
theorem d_M_readClause_44 : decode (ab_bc mt_M_readClause) 44 = .ok (.aload_n 0, 1) := by decide +kernel
theorem d_M_readClause_45 : decode (ab_bc mt_M_readClause) 45 = .ok (.invokevirtual 196, 3) := by decide +kernel
theorem d_M_readClause_48 : decode (ab_bc mt_M_readClause) 48 = .ok (.goto 30, 3) := by decide +kernel
theorem d_M_readClause_51 : decode (ab_bc mt_M_readClause) 51 = .ok (.iload_n 1, 1) := by decide +kernel
theorem d_M_readClause_52 : decode (ab_bc mt_M_readClause) 52 = .ok (.iconst 2, 1) := by decide +kernel
theorem d_M_readClause_53 : decode (ab_bc mt_M_readClause) 53 = .ok (.if_icmp .ne 10, 3) := by decide +kernel
theorem d_M_readClause_56 : decode (ab_bc mt_M_readClause) 56 = .ok (.aload_n 0, 1) := by decide +kernel
theorem d_M_readClause_57 : decode (ab_bc mt_M_readClause) 57 = .ok (.invokevirtual 199, 3) := by decide +kernel
theorem d_M_readClause_60 : decode (ab_bc mt_M_readClause) 60 = .ok (.goto 18, 3) := by decide +kernel
theorem d_M_readClause_63 : decode (ab_bc mt_M_readClause) 63 = .ok (.aload_n 0, 1) := by decide +kernel
theorem d_M_readClause_64 : decode (ab_bc mt_M_readClause) 64 = .ok (.invokevirtual 175, 3) := by decide +kernel
theorem d_M_readClause_67 : decode (ab_bc mt_M_readClause) 67 = .ok (.aload_n 0, 1) := by decide +kernel
theorem d_M_readClause_68 : decode (ab_bc mt_M_readClause) 68 = .ok (.aload_n 0, 1) := by decide +kernel
theorem d_M_readClause_69 : decode (ab_bc mt_M_readClause) 69 = .ok (.iconst 2, 1) := by decide +kernel
theorem d_M_readClause_70 : decode (ab_bc mt_M_readClause) 70 = .ok (.bipush 10, 2) := by decide +kernel
theorem d_M_readClause_72 : decode (ab_bc mt_M_readClause) 72 = .ok (.invokevirtual 187, 3) := by decide +kernel
theorem d_M_readClause_75 : decode (ab_bc mt_M_readClause) 75 = .ok (.putfield 178, 3) := by decide +kernel
theorem d_M_readClause_78 : decode (ab_bc mt_M_readClause) 78 = .ok (.aload_n 0, 1) := by decide +kernel
theorem d_M_readClause_79 : decode (ab_bc mt_M_readClause) 79 = .ok (.getfield 150, 3) := by decide +kernel
theorem d_M_readClause_82 : decode (ab_bc mt_M_readClause) 82 = .ok (.ifCond .ne 16, 3) := by decide +kernel
theorem d_M_readClause_85 : decode (ab_bc mt_M_readClause) 85 = .ok (.aload_n 0, 1) := by decide +kernel
theorem d_M_readClause_86 : decode (ab_bc mt_M_readClause) 86 = .ok (.getfield 127, 3) := by decide +kernel
theorem d_M_readClause_89 : decode (ab_bc mt_M_readClause) 89 = .ok (.iconst 3, 1) := by decide +kernel
theorem d_M_readClause_90 : decode (ab_bc mt_M_readClause) 90 = .ok (.if_icmp .eq 8, 3) := by decide +kernel
theorem d_M_readClause_93 : decode (ab_bc mt_M_readClause) 93 = .ok (.aload_n 0, 1) := by decide +kernel
theorem d_M_readClause_94 : decode (ab_bc mt_M_readClause) 94 = .ok (.iconst 1, 1) := by decide +kernel
theorem d_M_readClause_95 : decode (ab_bc mt_M_readClause) 95 = .ok (.invokevirtual 168, 3) := by decide +kernel
theorem d_M_readClause_98 : decode (ab_bc mt_M_readClause) 98 = .ok (.aload_n 0, 1) := by decide +kernel
theorem d_M_readClause_99 : decode (ab_bc mt_M_readClause) 99 = .ok (.getfield 150, 3) := by decide +kernel
theorem d_M_readClause_102 : decode (ab_bc mt_M_readClause) 102 = .ok (.ifCond .ne 7, 3) := by decide +kernel
theorem d_M_readClause_105 : decode (ab_bc mt_M_readClause) 105 = .ok (.aload_n 0, 1) := by decide +kernel
theorem d_M_readClause_106 : decode (ab_bc mt_M_readClause) 106 = .ok (.invokevirtual 175, 3) := by decide +kernel
theorem d_M_readClause_109 : decode (ab_bc mt_M_readClause) 109 = .ok (.aload_n 0, 1) := by decide +kernel
theorem d_M_readClause_110 : decode (ab_bc mt_M_readClause) 110 = .ok (.dup, 1) := by decide +kernel
theorem d_M_readClause_111 : decode (ab_bc mt_M_readClause) 111 = .ok (.getfield 193, 3) := by decide +kernel
theorem d_M_readClause_114 : decode (ab_bc mt_M_readClause) 114 = .ok (.iconst 1, 1) := by decide +kernel
theorem d_M_readClause_115 : decode (ab_bc mt_M_readClause) 115 = .ok (.iadd, 1) := by decide +kernel
theorem d_M_readClause_116 : decode (ab_bc mt_M_readClause) 116 = .ok (.putfield 193, 3) := by decide +kernel
theorem d_M_readClause_119 : decode (ab_bc mt_M_readClause) 119 = .ok (.return_, 1) := by decide +kernel
-- CableKeeperModel.readClause()V over mx
theorem q_M_readClause_0 {w : ab_Wd} {d n nc ns : Nat} {I : Nat → Nat → Int32} {L : Nat → Nat → Int64} {res : ab_Re}  (hc : nc ≤ res.2.2.2.2.2.1) (hs : ns ≤ res.2.2.2.2.2.2)
    (h : ∃ (r1 : Int32), ab_C w d mt_M_which [.ref mx] (I, L, ab_RR, n, nc, ns) (.inl (some (.int r1)), (I, L, ab_RR, n, nc, ns)) ∧ ((¬ r1 = (-1) → (ab_E w (d + 1) mt_M_readClause 15 [.ref mx, .int r1] [] (I, L, ab_RR, n, nc, ns) res)) ∧ (r1 = (-1) → (∃ (I4 : Nat → Nat → Int32), ab_C w d mt_M_wrong [.ref mx, .int 1] (I, L, ab_RR, n, nc, ns) (.inl none, (I4, L, ab_RR, n, nc, ns)) ∧ ab_E w (d + 1) mt_M_readClause 15 [.ref mx, .int r1] [] (I4, L, ab_RR, n, nc, ns) res)))) : ab_E w (d + 1) mt_M_readClause 0 [.ref mx, .null] [] (I, L, ab_RR, n, nc, ns) res := by
  refine ab_aload_n (i := 0) d_M_readClause_0 rfl rfl ?_
  obtain ⟨r1, hC, h⟩ := h
  refine ab_callV (me2 := mt_M_which) (b := mx) (as := []) (st := []) (rv := (some (.int r1))) (M2 := (I, L, ab_RR, n, nc, ns)) d_M_readClause_1 ce_M_which v_1586 v_1588 v_70 (by decide) rfl (Nat.le_of_ble_eq_true rfl) hC (Nat.le_refl _) (Nat.le_refl _) hc hs (fun j h9 => by cases h9) (fun _ _ => rfl) ?_
  show ab_E w (d + 1) mt_M_readClause 4 [.ref mx, .null] [.int r1] (I, L, ab_RR, n, nc, ns) res
  refine ab_istore_n (i := 1) d_M_readClause_4 rfl (by decide) (Or.inr rfl) ?_
  refine ab_iload_n (i := 1) d_M_readClause_5 rfl rfl ?_
  refine ab_iconst (v := (-1)) d_M_readClause_6 rfl ?_
  refine ab_icmp_ne (tgt := 15) d_M_readClause_7 (by decide) (fun c2 => ?_) (fun c2 => ?_)
  · have h := h.1 c2
    exact h
  · have h := h.2 c2
    refine ab_aload_n (i := 0) d_M_readClause_10 rfl rfl ?_
    refine ab_iconst (v := 1) d_M_readClause_11 rfl ?_
    obtain ⟨I4, hC, h⟩ := h
    refine ab_callV (me2 := mt_M_wrong) (b := mx) (as := [.int 1]) (st := []) (rv := none) (M2 := (I4, L, ab_RR, n, nc, ns)) d_M_readClause_12 ce_M_wrong v_1596 v_1598 v_72 (by decide) rfl (Nat.le_of_ble_eq_true rfl) hC (Nat.le_refl _) (Nat.le_refl _) hc hs (fun j h9 => by cases h9) (fun _ _ => rfl) ?_
    show ab_E w (d + 1) mt_M_readClause 15 [.ref mx, .int r1] [] (I4, L, ab_RR, n, nc, ns) res
    exact h
theorem q_M_readClause_15 {w : ab_Wd} {d n nc ns : Nat} {I : Nat → Nat → Int32} {L : Nat → Nat → Int64} {res : ab_Re} (v1 : Int32) (hc : nc ≤ res.2.2.2.2.2.1) (hs : ns ≤ res.2.2.2.2.2.2)
    (h : ((¬ v1 = 0 → (ab_E w (d + 1) mt_M_readClause 31 [.ref mx, .int v1] [] (I, L, ab_RR, n, nc, ns) res)) ∧ (v1 = 0 → (((I mx 18) ≤ 0 → (ab_E w (d + 1) mt_M_readClause 31 [.ref mx, .int v1] [] (I, L, ab_RR, n, nc, ns) res)) ∧ (¬ (I mx 18) ≤ 0 → (∃ (I4 : Nat → Nat → Int32), ab_C w d mt_M_wrong [.ref mx, .int 4] (I, L, ab_RR, n, nc, ns) (.inl none, (I4, L, ab_RR, n, nc, ns)) ∧ ab_E w (d + 1) mt_M_readClause 31 [.ref mx, .int v1] [] (I4, L, ab_RR, n, nc, ns) res)))))) : ab_E w (d + 1) mt_M_readClause 15 [.ref mx, .int v1] [] (I, L, ab_RR, n, nc, ns) res := by
  refine ab_iload_n (i := 1) d_M_readClause_15 rfl rfl ?_
  refine ab_if_ne (tgt := 31) d_M_readClause_16 (by decide) (fun c1 => ?_) (fun c1 => ?_)
  · have h := h.1 c1
    exact h
  · have h := h.2 c1
    refine ab_aload_n (i := 0) d_M_readClause_19 rfl rfl ?_
    refine ab_getI (ci := 11) (k := 18) d_M_readClause_20 v_1386 rfl (by decide) (by decide) rfl ?_
    refine ab_if_le (tgt := 31) d_M_readClause_23 (by decide) (fun c2 => ?_) (fun c2 => ?_)
    · have h := h.1 c2
      exact h
    · have h := h.2 c2
      refine ab_aload_n (i := 0) d_M_readClause_26 rfl rfl ?_
      refine ab_iconst (v := 4) d_M_readClause_27 rfl ?_
      obtain ⟨I4, hC, h⟩ := h
      refine ab_callV (me2 := mt_M_wrong) (b := mx) (as := [.int 4]) (st := []) (rv := none) (M2 := (I4, L, ab_RR, n, nc, ns)) d_M_readClause_28 ce_M_wrong v_1596 v_1598 v_72 (by decide) rfl (Nat.le_of_ble_eq_true rfl) hC (Nat.le_refl _) (Nat.le_refl _) hc hs (fun j h9 => by cases h9) (fun _ _ => rfl) ?_
      show ab_E w (d + 1) mt_M_readClause 31 [.ref mx, .int v1] [] (I4, L, ab_RR, n, nc, ns) res
      exact h
theorem q_M_readClause_31 {w : ab_Wd} {d n nc ns : Nat} {I : Nat → Nat → Int32} {L : Nat → Nat → Int64} {res : ab_Re} (v1 : Int32) (hc : nc ≤ res.2.2.2.2.2.1) (hs : ns ≤ res.2.2.2.2.2.2)
    (h : (((I mx 15) = 0 → ((¬ v1 = 1 → ((¬ v1 = 2 → (∃ (I5 : Nat → Nat → Int32), ab_C w d mt_M_stepOn [.ref mx] (I, L, ab_RR, n, nc, ns) (.inl none, (I5, L, ab_RR, n, nc, ns)) ∧ ∃ (r6 : Int32) (I7 : Nat → Nat → Int32), ab_C w d mt_M_readNumber [.ref mx, .int 2, .int 10] (I5, L, ab_RR, n, nc, ns) (.inl (some (.int r6)), (I7, L, ab_RR, n, nc, ns)) ∧ ab_E w (d + 1) mt_M_readClause 78 [.ref mx, .int v1] [] ((ab_up I7 mx 3 r6), L, ab_RR, n, nc, ns) res)) ∧ (v1 = 2 → (∃ (I9 : Nat → Nat → Int32), ab_C w d mt_M_readBroken [.ref mx] (I, L, ab_RR, n, nc, ns) (.inl none, (I9, L, ab_RR, n, nc, ns)) ∧ ab_E w (d + 1) mt_M_readClause 78 [.ref mx, .int v1] [] (I9, L, ab_RR, n, nc, ns) res)))) ∧ (v1 = 1 → (∃ (I11 : Nat → Nat → Int32), ab_C w d mt_M_readCable [.ref mx] (I, L, ab_RR, n, nc, ns) (.inl none, (I11, L, ab_RR, n, nc, ns)) ∧ ab_E w (d + 1) mt_M_readClause 78 [.ref mx, .int v1] [] (I11, L, ab_RR, n, nc, ns) res)))) ∧ (¬ (I mx 15) = 0 → (res = (.inl none, (I, L, ab_RR, n, nc, ns)))))) : ab_E w (d + 1) mt_M_readClause 31 [.ref mx, .int v1] [] (I, L, ab_RR, n, nc, ns) res := by
  refine ab_aload_n (i := 0) d_M_readClause_31 rfl rfl ?_
  refine ab_getI (ci := 11) (k := 15) d_M_readClause_32 v_1383 rfl (by decide) (by decide) rfl ?_
  refine ab_if_eq (tgt := 39) d_M_readClause_35 (by decide) (fun c1 => ?_) (fun c1 => ?_)
  · have h := h.1 c1
    refine ab_iload_n (i := 1) d_M_readClause_39 rfl rfl ?_
    refine ab_iconst (v := 1) d_M_readClause_40 rfl ?_
    refine ab_icmp_ne (tgt := 51) d_M_readClause_41 (by decide) (fun c2 => ?_) (fun c2 => ?_)
    · have h := h.1 c2
      refine ab_iload_n (i := 1) d_M_readClause_51 rfl rfl ?_
      refine ab_iconst (v := 2) d_M_readClause_52 rfl ?_
      refine ab_icmp_ne (tgt := 63) d_M_readClause_53 (by decide) (fun c3 => ?_) (fun c3 => ?_)
      · have h := h.1 c3
        refine ab_aload_n (i := 0) d_M_readClause_63 rfl rfl ?_
        obtain ⟨I5, hC, h⟩ := h
        refine ab_callV (me2 := mt_M_stepOn) (b := mx) (as := []) (st := []) (rv := none) (M2 := (I5, L, ab_RR, n, nc, ns)) d_M_readClause_64 ce_M_stepOn v_1566 v_1568 v_67 (by decide) rfl (Nat.le_of_ble_eq_true rfl) hC (Nat.le_refl _) (Nat.le_refl _) hc hs (fun j h9 => by cases h9) (fun _ _ => rfl) ?_
        show ab_E w (d + 1) mt_M_readClause 67 [.ref mx, .int v1] [] (I5, L, ab_RR, n, nc, ns) res
        refine ab_aload_n (i := 0) d_M_readClause_67 rfl rfl ?_
        refine ab_aload_n (i := 0) d_M_readClause_68 rfl rfl ?_
        refine ab_iconst (v := 2) d_M_readClause_69 rfl ?_
        refine ab_bipush (v := 10) d_M_readClause_70 rfl ?_
        obtain ⟨r6, I7, hC, h⟩ := h
        refine ab_callV (me2 := mt_M_readNumber) (b := mx) (as := [.int 2, .int 10]) (st := [.ref mx]) (rv := (some (.int r6))) (M2 := (I7, L, ab_RR, n, nc, ns)) d_M_readClause_72 ce_M_readNumber v_1616 v_1618 v_77 (by decide) rfl (Nat.le_of_ble_eq_true rfl) hC (Nat.le_refl _) (Nat.le_refl _) hc hs (fun j h9 => by cases h9) (fun _ _ => rfl) ?_
        show ab_E w (d + 1) mt_M_readClause 75 [.ref mx, .int v1] [.int r6, .ref mx] (I7, L, ab_RR, n, nc, ns) res
        refine ab_putI (ci := 11) (k := 3) d_M_readClause_75 v_1371 rfl (by decide) (by decide) rfl (Or.inl rfl) rfl rfl ?_
        exact h
      · have h := h.2 c3
        refine ab_aload_n (i := 0) d_M_readClause_56 rfl rfl ?_
        obtain ⟨I9, hC, h⟩ := h
        refine ab_callV (me2 := mt_M_readBroken) (b := mx) (as := []) (st := []) (rv := none) (M2 := (I9, L, ab_RR, n, nc, ns)) d_M_readClause_57 ce_M_readBroken v_1620 v_1622 v_78 (by decide) rfl (Nat.le_of_ble_eq_true rfl) hC (Nat.le_refl _) (Nat.le_refl _) hc hs (fun j h9 => by cases h9) (fun _ _ => rfl) ?_
        show ab_E w (d + 1) mt_M_readClause 60 [.ref mx, .int v1] [] (I9, L, ab_RR, n, nc, ns) res
        refine ab_goto (tgt := 78) d_M_readClause_60 (by decide) ?_
        exact h
    · have h := h.2 c2
      refine ab_aload_n (i := 0) d_M_readClause_44 rfl rfl ?_
      obtain ⟨I11, hC, h⟩ := h
      refine ab_callV (me2 := mt_M_readCable) (b := mx) (as := []) (st := []) (rv := none) (M2 := (I11, L, ab_RR, n, nc, ns)) d_M_readClause_45 ce_M_readCable v_1600 v_1602 v_73 (by decide) rfl (Nat.le_of_ble_eq_true rfl) hC (Nat.le_refl _) (Nat.le_refl _) hc hs (fun j h9 => by cases h9) (fun _ _ => rfl) ?_
      show ab_E w (d + 1) mt_M_readClause 48 [.ref mx, .int v1] [] (I11, L, ab_RR, n, nc, ns) res
      refine ab_goto (tgt := 78) d_M_readClause_48 (by decide) ?_
      exact h
  · have h := h.2 c1
    exact ab_vret d_M_readClause_38 rfl h
theorem q_M_readClause_78 {w : ab_Wd} {d n nc ns : Nat} {I : Nat → Nat → Int32} {L : Nat → Nat → Int64} {res : ab_Re} (v1 : Int32) (hc : nc ≤ res.2.2.2.2.2.1) (hs : ns ≤ res.2.2.2.2.2.2)
    (h : ((¬ (I mx 15) = 0 → (ab_E w (d + 1) mt_M_readClause 98 [.ref mx, .int v1] [] (I, L, ab_RR, n, nc, ns) res)) ∧ ((I mx 15) = 0 → (((I mx 11) = 3 → (ab_E w (d + 1) mt_M_readClause 98 [.ref mx, .int v1] [] (I, L, ab_RR, n, nc, ns) res)) ∧ (¬ (I mx 11) = 3 → (∃ (I4 : Nat → Nat → Int32), ab_C w d mt_M_wrong [.ref mx, .int 1] (I, L, ab_RR, n, nc, ns) (.inl none, (I4, L, ab_RR, n, nc, ns)) ∧ ab_E w (d + 1) mt_M_readClause 98 [.ref mx, .int v1] [] (I4, L, ab_RR, n, nc, ns) res)))))) : ab_E w (d + 1) mt_M_readClause 78 [.ref mx, .int v1] [] (I, L, ab_RR, n, nc, ns) res := by
  refine ab_aload_n (i := 0) d_M_readClause_78 rfl rfl ?_
  refine ab_getI (ci := 11) (k := 15) d_M_readClause_79 v_1383 rfl (by decide) (by decide) rfl ?_
  refine ab_if_ne (tgt := 98) d_M_readClause_82 (by decide) (fun c1 => ?_) (fun c1 => ?_)
  · have h := h.1 c1
    exact h
  · have h := h.2 c1
    refine ab_aload_n (i := 0) d_M_readClause_85 rfl rfl ?_
    refine ab_getI (ci := 11) (k := 11) d_M_readClause_86 v_1379 rfl (by decide) (by decide) rfl ?_
    refine ab_iconst (v := 3) d_M_readClause_89 rfl ?_
    refine ab_icmp_eq (tgt := 98) d_M_readClause_90 (by decide) (fun c2 => ?_) (fun c2 => ?_)
    · have h := h.1 c2
      exact h
    · have h := h.2 c2
      refine ab_aload_n (i := 0) d_M_readClause_93 rfl rfl ?_
      refine ab_iconst (v := 1) d_M_readClause_94 rfl ?_
      obtain ⟨I4, hC, h⟩ := h
      refine ab_callV (me2 := mt_M_wrong) (b := mx) (as := [.int 1]) (st := []) (rv := none) (M2 := (I4, L, ab_RR, n, nc, ns)) d_M_readClause_95 ce_M_wrong v_1596 v_1598 v_72 (by decide) rfl (Nat.le_of_ble_eq_true rfl) hC (Nat.le_refl _) (Nat.le_refl _) hc hs (fun j h9 => by cases h9) (fun _ _ => rfl) ?_
      show ab_E w (d + 1) mt_M_readClause 98 [.ref mx, .int v1] [] (I4, L, ab_RR, n, nc, ns) res
      exact h
theorem q_M_readClause_98 {w : ab_Wd} {d n nc ns : Nat} {I : Nat → Nat → Int32} {L : Nat → Nat → Int64} {res : ab_Re} (v1 : Int32) (hc : nc ≤ res.2.2.2.2.2.1) (hs : ns ≤ res.2.2.2.2.2.2)
    (h : ((¬ (I mx 15) = 0 → (ab_E w (d + 1) mt_M_readClause 109 [.ref mx, .int v1] [] (I, L, ab_RR, n, nc, ns) res)) ∧ ((I mx 15) = 0 → (∃ (I3 : Nat → Nat → Int32), ab_C w d mt_M_stepOn [.ref mx] (I, L, ab_RR, n, nc, ns) (.inl none, (I3, L, ab_RR, n, nc, ns)) ∧ ab_E w (d + 1) mt_M_readClause 109 [.ref mx, .int v1] [] (I3, L, ab_RR, n, nc, ns) res)))) : ab_E w (d + 1) mt_M_readClause 98 [.ref mx, .int v1] [] (I, L, ab_RR, n, nc, ns) res := by
  refine ab_aload_n (i := 0) d_M_readClause_98 rfl rfl ?_
  refine ab_getI (ci := 11) (k := 15) d_M_readClause_99 v_1383 rfl (by decide) (by decide) rfl ?_
  refine ab_if_ne (tgt := 109) d_M_readClause_102 (by decide) (fun c1 => ?_) (fun c1 => ?_)
  · have h := h.1 c1
    exact h
  · have h := h.2 c1
    refine ab_aload_n (i := 0) d_M_readClause_105 rfl rfl ?_
    obtain ⟨I3, hC, h⟩ := h
    refine ab_callV (me2 := mt_M_stepOn) (b := mx) (as := []) (st := []) (rv := none) (M2 := (I3, L, ab_RR, n, nc, ns)) d_M_readClause_106 ce_M_stepOn v_1566 v_1568 v_67 (by decide) rfl (Nat.le_of_ble_eq_true rfl) hC (Nat.le_refl _) (Nat.le_refl _) hc hs (fun j h9 => by cases h9) (fun _ _ => rfl) ?_
    show ab_E w (d + 1) mt_M_readClause 109 [.ref mx, .int v1] [] (I3, L, ab_RR, n, nc, ns) res
    exact h
theorem q_M_readClause_109 {w : ab_Wd} {d n nc ns : Nat} {I : Nat → Nat → Int32} {L : Nat → Nat → Int64} {res : ab_Re} (v1 : Int32) (hc : nc ≤ res.2.2.2.2.2.1) (hs : ns ≤ res.2.2.2.2.2.2)
    (h : res = (.inl none, ((ab_up I mx 18 ((I mx 18) + 1)), L, ab_RR, n, nc, ns))) : ab_E w (d + 1) mt_M_readClause 109 [.ref mx, .int v1] [] (I, L, ab_RR, n, nc, ns) res := by
  refine ab_aload_n (i := 0) d_M_readClause_109 rfl rfl ?_
  refine ab_dupr d_M_readClause_110 ?_
  refine ab_getI (ci := 11) (k := 18) d_M_readClause_111 v_1386 rfl (by decide) (by decide) rfl ?_
  refine ab_iconst (v := 1) d_M_readClause_114 rfl ?_
  refine ab_iadd d_M_readClause_115 ?_
  refine ab_putI (ci := 11) (k := 18) d_M_readClause_116 v_1386 rfl (by decide) (by decide) rfl (Or.inl rfl) rfl rfl ?_
  exact ab_vret d_M_readClause_119 rfl h
theorem d_M_net_0 : decode (ab_bc mt_M_net) 0 = .ok (.aload_n 0, 1) := by decide +kernel
theorem d_M_net_1 : decode (ab_bc mt_M_net) 1 = .ok (.iconst 0, 1) := by decide +kernel
theorem d_M_net_2 : decode (ab_bc mt_M_net) 2 = .ok (.putfield 108, 3) := by decide +kernel
theorem d_M_net_5 : decode (ab_bc mt_M_net) 5 = .ok (.iload_n 1, 1) := by decide +kernel
theorem d_M_net_6 : decode (ab_bc mt_M_net) 6 = .ok (.ifCond .lt 11, 3) := by decide +kernel
theorem d_M_net_9 : decode (ab_bc mt_M_net) 9 = .ok (.iload_n 1, 1) := by decide +kernel
theorem d_M_net_10 : decode (ab_bc mt_M_net) 10 = .ok (.aload_n 0, 1) := by decide +kernel
theorem d_M_net_11 : decode (ab_bc mt_M_net) 11 = .ok (.getfield 111, 3) := by decide +kernel
theorem d_M_net_14 : decode (ab_bc mt_M_net) 14 = .ok (.if_icmp .le 9, 3) := by decide +kernel
theorem d_M_net_17 : decode (ab_bc mt_M_net) 17 = .ok (.aload_n 0, 1) := by decide +kernel
theorem d_M_net_18 : decode (ab_bc mt_M_net) 18 = .ok (.iconst 1, 1) := by decide +kernel
theorem d_M_net_19 : decode (ab_bc mt_M_net) 19 = .ok (.invokevirtual 202, 3) := by decide +kernel
theorem d_M_net_22 : decode (ab_bc mt_M_net) 22 = .ok (.ireturn, 1) := by decide +kernel
theorem d_M_net_23 : decode (ab_bc mt_M_net) 23 = .ok (.aload_n 0, 1) := by decide +kernel
theorem d_M_net_24 : decode (ab_bc mt_M_net) 24 = .ok (.iconst 0, 1) := by decide +kernel
theorem d_M_net_25 : decode (ab_bc mt_M_net) 25 = .ok (.putfield 111, 3) := by decide +kernel
theorem d_M_net_28 : decode (ab_bc mt_M_net) 28 = .ok (.aload_n 0, 1) := by decide +kernel
theorem d_M_net_29 : decode (ab_bc mt_M_net) 29 = .ok (.iload_n 1, 1) := by decide +kernel
theorem d_M_net_30 : decode (ab_bc mt_M_net) 30 = .ok (.putfield 114, 3) := by decide +kernel
theorem d_M_net_33 : decode (ab_bc mt_M_net) 33 = .ok (.aload_n 0, 1) := by decide +kernel
theorem d_M_net_34 : decode (ab_bc mt_M_net) 34 = .ok (.iconst 0, 1) := by decide +kernel
theorem d_M_net_35 : decode (ab_bc mt_M_net) 35 = .ok (.putfield 117, 3) := by decide +kernel
theorem d_M_net_38 : decode (ab_bc mt_M_net) 38 = .ok (.aload_n 0, 1) := by decide +kernel
theorem d_M_net_39 : decode (ab_bc mt_M_net) 39 = .ok (.iconst 0, 1) := by decide +kernel
theorem d_M_net_40 : decode (ab_bc mt_M_net) 40 = .ok (.putfield 150, 3) := by decide +kernel
theorem d_M_net_43 : decode (ab_bc mt_M_net) 43 = .ok (.aload_n 0, 1) := by decide +kernel
theorem d_M_net_44 : decode (ab_bc mt_M_net) 44 = .ok (.iconst (-1), 1) := by decide +kernel
theorem d_M_net_45 : decode (ab_bc mt_M_net) 45 = .ok (.putfield 37, 3) := by decide +kernel
theorem d_M_net_48 : decode (ab_bc mt_M_net) 48 = .ok (.aload_n 0, 1) := by decide +kernel
theorem d_M_net_49 : decode (ab_bc mt_M_net) 49 = .ok (.iconst 0, 1) := by decide +kernel
theorem d_M_net_50 : decode (ab_bc mt_M_net) 50 = .ok (.putfield 193, 3) := by decide +kernel
theorem d_M_net_53 : decode (ab_bc mt_M_net) 53 = .ok (.aload_n 0, 1) := by decide +kernel
theorem d_M_net_54 : decode (ab_bc mt_M_net) 54 = .ok (.iconst (-1), 1) := by decide +kernel
theorem d_M_net_55 : decode (ab_bc mt_M_net) 55 = .ok (.putfield 178, 3) := by decide +kernel
theorem d_M_net_58 : decode (ab_bc mt_M_net) 58 = .ok (.iconst 0, 1) := by decide +kernel
theorem d_M_net_59 : decode (ab_bc mt_M_net) 59 = .ok (.istore_n 2, 1) := by decide +kernel
theorem d_M_net_60 : decode (ab_bc mt_M_net) 60 = .ok (.iload_n 2, 1) := by decide +kernel
theorem d_M_net_61 : decode (ab_bc mt_M_net) 61 = .ok (.sipush 399, 3) := by decide +kernel
theorem d_M_net_64 : decode (ab_bc mt_M_net) 64 = .ok (.if_icmp .ge 16, 3) := by decide +kernel
theorem d_M_net_67 : decode (ab_bc mt_M_net) 67 = .ok (.aload_n 0, 1) := by decide +kernel
theorem d_M_net_68 : decode (ab_bc mt_M_net) 68 = .ok (.getfield 28, 3) := by decide +kernel
theorem d_M_net_71 : decode (ab_bc mt_M_net) 71 = .ok (.iload_n 2, 1) := by decide +kernel
theorem d_M_net_72 : decode (ab_bc mt_M_net) 72 = .ok (.iconst 0, 1) := by decide +kernel
theorem d_M_net_73 : decode (ab_bc mt_M_net) 73 = .ok (.iastore, 1) := by decide +kernel
theorem d_M_net_74 : decode (ab_bc mt_M_net) 74 = .ok (.iinc 2 1, 3) := by decide +kernel
theorem d_M_net_77 : decode (ab_bc mt_M_net) 77 = .ok (.goto (-17), 3) := by decide +kernel
theorem d_M_net_80 : decode (ab_bc mt_M_net) 80 = .ok (.aload_n 0, 1) := by decide +kernel
theorem d_M_net_81 : decode (ab_bc mt_M_net) 81 = .ok (.invokevirtual 175, 3) := by decide +kernel
theorem d_M_net_84 : decode (ab_bc mt_M_net) 84 = .ok (.aload_n 0, 1) := by decide +kernel
theorem d_M_net_85 : decode (ab_bc mt_M_net) 85 = .ok (.getfield 150, 3) := by decide +kernel
theorem d_M_net_88 : decode (ab_bc mt_M_net) 88 = .ok (.ifCond .ne 17, 3) := by decide +kernel
theorem d_M_net_91 : decode (ab_bc mt_M_net) 91 = .ok (.aload_n 0, 1) := by decide +kernel
theorem d_M_net_92 : decode (ab_bc mt_M_net) 92 = .ok (.getfield 127, 3) := by decide +kernel
theorem d_M_net_95 : decode (ab_bc mt_M_net) 95 = .ok (.ifCond .eq 10, 3) := by decide +kernel
theorem d_M_net_98 : decode (ab_bc mt_M_net) 98 = .ok (.aload_n 0, 1) := by decide +kernel
theorem d_M_net_99 : decode (ab_bc mt_M_net) 99 = .ok (.invokevirtual 205, 3) := by decide +kernel
theorem d_M_net_102 : decode (ab_bc mt_M_net) 102 = .ok (.goto (-18), 3) := by decide +kernel
theorem d_M_net_105 : decode (ab_bc mt_M_net) 105 = .ok (.aload_n 0, 1) := by decide +kernel
theorem d_M_net_106 : decode (ab_bc mt_M_net) 106 = .ok (.getfield 150, 3) := by decide +kernel
theorem d_M_net_109 : decode (ab_bc mt_M_net) 109 = .ok (.ifCond .eq 26, 3) := by decide +kernel
theorem d_M_net_112 : decode (ab_bc mt_M_net) 112 = .ok (.aload_n 0, 1) := by decide +kernel
theorem d_M_net_113 : decode (ab_bc mt_M_net) 113 = .ok (.aload_n 0, 1) := by decide +kernel
theorem d_M_net_114 : decode (ab_bc mt_M_net) 114 = .ok (.getfield 153, 3) := by decide +kernel
theorem d_M_net_117 : decode (ab_bc mt_M_net) 117 = .ok (.putfield 37, 3) := by decide +kernel
theorem d_M_net_120 : decode (ab_bc mt_M_net) 120 = .ok (.aload_n 0, 1) := by decide +kernel
theorem d_M_net_121 : decode (ab_bc mt_M_net) 121 = .ok (.getfield 31, 3) := by decide +kernel
theorem d_M_net_124 : decode (ab_bc mt_M_net) 124 = .ok (.iconst 0, 1) := by decide +kernel
theorem d_M_net_125 : decode (ab_bc mt_M_net) 125 = .ok (.dup2, 1) := by decide +kernel
theorem d_M_net_126 : decode (ab_bc mt_M_net) 126 = .ok (.iaload, 1) := by decide +kernel
theorem d_M_net_127 : decode (ab_bc mt_M_net) 127 = .ok (.iconst 1, 1) := by decide +kernel
theorem d_M_net_128 : decode (ab_bc mt_M_net) 128 = .ok (.iadd, 1) := by decide +kernel
theorem d_M_net_129 : decode (ab_bc mt_M_net) 129 = .ok (.iastore, 1) := by decide +kernel
theorem d_M_net_130 : decode (ab_bc mt_M_net) 130 = .ok (.aload_n 0, 1) := by decide +kernel
theorem d_M_net_131 : decode (ab_bc mt_M_net) 131 = .ok (.getfield 150, 3) := by decide +kernel
theorem d_M_net_134 : decode (ab_bc mt_M_net) 134 = .ok (.ireturn, 1) := by decide +kernel
theorem d_M_net_135 : decode (ab_bc mt_M_net) 135 = .ok (.aload_n 0, 1) := by decide +kernel
theorem d_M_net_136 : decode (ab_bc mt_M_net) 136 = .ok (.aload_n 0, 1) := by decide +kernel
theorem d_M_net_137 : decode (ab_bc mt_M_net) 137 = .ok (.invokevirtual 181, 3) := by decide +kernel
theorem d_M_net_140 : decode (ab_bc mt_M_net) 140 = .ok (.putfield 21, 3) := by decide +kernel
theorem d_M_net_143 : decode (ab_bc mt_M_net) 143 = .ok (.aload_n 0, 1) := by decide +kernel
theorem d_M_net_144 : decode (ab_bc mt_M_net) 144 = .ok (.getfield 24, 3) := by decide +kernel
theorem d_M_net_147 : decode (ab_bc mt_M_net) 147 = .ok (.aload_n 0, 1) := by decide +kernel
theorem d_M_net_148 : decode (ab_bc mt_M_net) 148 = .ok (.getfield 28, 3) := by decide +kernel
theorem d_M_net_151 : decode (ab_bc mt_M_net) 151 = .ok (.invokestatic 208, 3) := by decide +kernel
theorem d_M_net_154 : decode (ab_bc mt_M_net) 154 = .ok (.aload_n 0, 1) := by decide +kernel
theorem d_M_net_155 : decode (ab_bc mt_M_net) 155 = .ok (.iconst 0, 1) := by decide +kernel
theorem d_M_net_156 : decode (ab_bc mt_M_net) 156 = .ok (.putfield 212, 3) := by decide +kernel
theorem d_M_net_159 : decode (ab_bc mt_M_net) 159 = .ok (.aload_n 0, 1) := by decide +kernel
theorem d_M_net_160 : decode (ab_bc mt_M_net) 160 = .ok (.iconst 0, 1) := by decide +kernel
theorem d_M_net_161 : decode (ab_bc mt_M_net) 161 = .ok (.putfield 215, 3) := by decide +kernel
theorem d_M_net_164 : decode (ab_bc mt_M_net) 164 = .ok (.aload_n 0, 1) := by decide +kernel
theorem d_M_net_165 : decode (ab_bc mt_M_net) 165 = .ok (.iconst 0, 1) := by decide +kernel
theorem d_M_net_166 : decode (ab_bc mt_M_net) 166 = .ok (.putfield 218, 3) := by decide +kernel
theorem d_M_net_169 : decode (ab_bc mt_M_net) 169 = .ok (.iconst 0, 1) := by decide +kernel
theorem d_M_net_170 : decode (ab_bc mt_M_net) 170 = .ok (.ireturn, 1) := by decide +kernel
-- CableKeeperModel.net(I)I over mx
theorem q_M_net_0 {w : ab_Wd} {d n nc ns : Nat} {I : Nat → Nat → Int32} {L : Nat → Nat → Int64} {res : ab_Re} (v1 : Int32) (hc : nc ≤ res.2.2.2.2.2.1) (hs : ns ≤ res.2.2.2.2.2.2)
    (h : ((v1 < 0 → (ab_E w (d + 1) mt_M_net 17 [.ref mx, .int v1, .null] [] ((ab_up I mx 1 0), L, ab_RR, n, nc, ns) res)) ∧ (¬ v1 < 0 → ((v1 ≤ (I mx 8) → (ab_E w (d + 1) mt_M_net 60 [.ref mx, .int v1, .int 0] [] ((ab_up (ab_up (ab_up (ab_up (ab_up (ab_up (ab_up (ab_up I mx 1 0) mx 8 0) mx 10 v1) mx 9 0) mx 15 0) mx 17 (-1)) mx 18 0) mx 3 (-1)), L, ab_RR, n, nc, ns) res)) ∧ (¬ v1 ≤ (I mx 8) → (ab_E w (d + 1) mt_M_net 17 [.ref mx, .int v1, .null] [] ((ab_up I mx 1 0), L, ab_RR, n, nc, ns) res)))))) : ab_E w (d + 1) mt_M_net 0 [.ref mx, .int v1, .null] [] (I, L, ab_RR, n, nc, ns) res := by
  refine ab_aload_n (i := 0) d_M_net_0 rfl rfl ?_
  refine ab_iconst (v := 0) d_M_net_1 rfl ?_
  refine ab_putI (ci := 11) (k := 1) d_M_net_2 v_1369 rfl (by decide) (by decide) rfl (Or.inl rfl) rfl rfl ?_
  refine ab_iload_n (i := 1) d_M_net_5 rfl rfl ?_
  refine ab_if_lt (tgt := 17) d_M_net_6 (by decide) (fun c1 => ?_) (fun c1 => ?_)
  · have h := h.1 c1
    exact h
  · have h := h.2 c1
    refine ab_iload_n (i := 1) d_M_net_9 rfl rfl ?_
    refine ab_aload_n (i := 0) d_M_net_10 rfl rfl ?_
    refine ab_getI (ci := 11) (k := 8) d_M_net_11 v_1376 rfl (by decide) (by decide) rfl ?_
    refine ab_icmp_le (tgt := 23) d_M_net_14 (by decide) (fun c2 => ?_) (fun c2 => ?_)
    · have h := h.1 c2
      refine ab_aload_n (i := 0) d_M_net_23 rfl rfl ?_
      refine ab_iconst (v := 0) d_M_net_24 rfl ?_
      refine ab_putI (ci := 11) (k := 8) d_M_net_25 v_1376 rfl (by decide) (by decide) rfl (Or.inl rfl) rfl rfl ?_
      refine ab_aload_n (i := 0) d_M_net_28 rfl rfl ?_
      refine ab_iload_n (i := 1) d_M_net_29 rfl rfl ?_
      refine ab_putI (ci := 11) (k := 10) d_M_net_30 v_1378 rfl (by decide) (by decide) rfl (Or.inl rfl) rfl rfl ?_
      refine ab_aload_n (i := 0) d_M_net_33 rfl rfl ?_
      refine ab_iconst (v := 0) d_M_net_34 rfl ?_
      refine ab_putI (ci := 11) (k := 9) d_M_net_35 v_1377 rfl (by decide) (by decide) rfl (Or.inl rfl) rfl rfl ?_
      refine ab_aload_n (i := 0) d_M_net_38 rfl rfl ?_
      refine ab_iconst (v := 0) d_M_net_39 rfl ?_
      refine ab_putI (ci := 11) (k := 15) d_M_net_40 v_1383 rfl (by decide) (by decide) rfl (Or.inl rfl) rfl rfl ?_
      refine ab_aload_n (i := 0) d_M_net_43 rfl rfl ?_
      refine ab_iconst (v := (-1)) d_M_net_44 rfl ?_
      refine ab_putI (ci := 11) (k := 17) d_M_net_45 v_1385 rfl (by decide) (by decide) rfl (Or.inl rfl) rfl rfl ?_
      refine ab_aload_n (i := 0) d_M_net_48 rfl rfl ?_
      refine ab_iconst (v := 0) d_M_net_49 rfl ?_
      refine ab_putI (ci := 11) (k := 18) d_M_net_50 v_1386 rfl (by decide) (by decide) rfl (Or.inl rfl) rfl rfl ?_
      refine ab_aload_n (i := 0) d_M_net_53 rfl rfl ?_
      refine ab_iconst (v := (-1)) d_M_net_54 rfl ?_
      refine ab_putI (ci := 11) (k := 3) d_M_net_55 v_1371 rfl (by decide) (by decide) rfl (Or.inl rfl) rfl rfl ?_
      refine ab_iconst (v := 0) d_M_net_58 rfl ?_
      refine ab_istore_n (i := 2) d_M_net_59 rfl (by decide) (Or.inr rfl) ?_
      exact h
    · have h := h.2 c2
      exact h
theorem q_M_net_17 {w : ab_Wd} {d n nc ns : Nat} {I : Nat → Nat → Int32} {L : Nat → Nat → Int64} {res : ab_Re} (v1 : Int32) (hc : nc ≤ res.2.2.2.2.2.1) (hs : ns ≤ res.2.2.2.2.2.2)
    (h : ∃ (r1 : Int32) (I2 : Nat → Nat → Int32), ab_C w d mt_M_fail [.ref mx, .int 1] (I, L, ab_RR, n, nc, ns) (.inl (some (.int r1)), (I2, L, ab_RR, n, nc, ns)) ∧ res = (.inl (some (.int r1)), (I2, L, ab_RR, n, nc, ns))) : ab_E w (d + 1) mt_M_net 17 [.ref mx, .int v1, .null] [] (I, L, ab_RR, n, nc, ns) res := by
  refine ab_aload_n (i := 0) d_M_net_17 rfl rfl ?_
  refine ab_iconst (v := 1) d_M_net_18 rfl ?_
  obtain ⟨r1, I2, hC, h⟩ := h
  refine ab_callV (me2 := mt_M_fail) (b := mx) (as := [.int 1]) (st := []) (rv := (some (.int r1))) (M2 := (I2, L, ab_RR, n, nc, ns)) d_M_net_19 ce_M_fail v_1562 v_1564 v_66 (by decide) rfl (Nat.le_of_ble_eq_true rfl) hC (Nat.le_refl _) (Nat.le_refl _) hc hs (fun j h9 => by cases h9) (fun _ _ => rfl) ?_
  show ab_E w (d + 1) mt_M_net 22 [.ref mx, .int v1, .null] [.int r1] (I2, L, ab_RR, n, nc, ns) res
  exact ab_iret (ty := .int) d_M_net_22 rfl rfl h
theorem q_M_net_60 {w : ab_Wd} {d n nc ns : Nat} {I : Nat → Nat → Int32} {L : Nat → Nat → Int64} {res : ab_Re} (v1 : Int32) (v2 : Int32) (hc : nc ≤ res.2.2.2.2.2.1) (hs : ns ≤ res.2.2.2.2.2.2)
    (h : ((399 ≤ v2 → (∃ (I3 : Nat → Nat → Int32), ab_C w d mt_M_stepOn [.ref mx] (I, L, ab_RR, n, nc, ns) (.inl none, (I3, L, ab_RR, n, nc, ns)) ∧ ab_E w (d + 1) mt_M_net 84 [.ref mx, .int v1, .int v2] [] (I3, L, ab_RR, n, nc, ns) res)) ∧ (¬ 399 ≤ v2 → ((vp_in v2 399) ∧ ab_E w (d + 1) mt_M_net 60 [.ref mx, .int v1, .int (v2 + 1)] [] ((ab_up I mx_reading v2.toNatClampNeg 0), L, ab_RR, n, nc, ns) res)))) : ab_E w (d + 1) mt_M_net 60 [.ref mx, .int v1, .int v2] [] (I, L, ab_RR, n, nc, ns) res := by
  refine ab_iload_n (i := 2) d_M_net_60 rfl rfl ?_
  refine ab_sipush (v := 399) d_M_net_61 rfl ?_
  refine ab_icmp_ge (tgt := 80) d_M_net_64 (by decide) (fun c1 => ?_) (fun c1 => ?_)
  · have h := h.1 c1
    refine ab_aload_n (i := 0) d_M_net_80 rfl rfl ?_
    obtain ⟨I3, hC, h⟩ := h
    refine ab_callV (me2 := mt_M_stepOn) (b := mx) (as := []) (st := []) (rv := none) (M2 := (I3, L, ab_RR, n, nc, ns)) d_M_net_81 ce_M_stepOn v_1566 v_1568 v_67 (by decide) rfl (Nat.le_of_ble_eq_true rfl) hC (Nat.le_refl _) (Nat.le_refl _) hc hs (fun j h9 => by cases h9) (fun _ _ => rfl) ?_
    show ab_E w (d + 1) mt_M_net 84 [.ref mx, .int v1, .int v2] [] (I3, L, ab_RR, n, nc, ns) res
    exact h
  · have h := h.2 c1
    refine ab_aload_n (i := 0) d_M_net_67 rfl rfl ?_
    refine ab_getR (ci := 11) (k := 5) (j := mx_reading) d_M_net_68 v_1373 rfl (by decide) (by decide) rfl r_mx_5 ?_
    refine ab_iload_n (i := 2) d_M_net_71 rfl rfl ?_
    refine ab_iconst (v := 0) d_M_net_72 rfl ?_
    have g4 := h.1; have h := h.2
    refine ab_iast d_M_net_73 rfl rfl g4 ?_
    refine ab_iinc (i := 2) (v := (v2 + 1)) d_M_net_74 rfl rfl (by decide) (Or.inr rfl) ?_
    refine ab_goto (tgt := 60) d_M_net_77 (by decide) ?_
    exact h
theorem q_M_net_84 {w : ab_Wd} {d n nc ns : Nat} {I : Nat → Nat → Int32} {L : Nat → Nat → Int64} {res : ab_Re} (v1 : Int32) (v2 : Int32) (hc : nc ≤ res.2.2.2.2.2.1) (hs : ns ≤ res.2.2.2.2.2.2)
    (h : ((¬ (I mx 15) = 0 → (ab_E w (d + 1) mt_M_net 105 [.ref mx, .int v1, .int v2] [] (I, L, ab_RR, n, nc, ns) res)) ∧ ((I mx 15) = 0 → (((I mx 11) = 0 → (ab_E w (d + 1) mt_M_net 105 [.ref mx, .int v1, .int v2] [] (I, L, ab_RR, n, nc, ns) res)) ∧ (¬ (I mx 11) = 0 → (∃ (I4 : Nat → Nat → Int32), ab_C w d mt_M_readClause [.ref mx] (I, L, ab_RR, n, nc, ns) (.inl none, (I4, L, ab_RR, n, nc, ns)) ∧ ab_E w (d + 1) mt_M_net 84 [.ref mx, .int v1, .int v2] [] (I4, L, ab_RR, n, nc, ns) res)))))) : ab_E w (d + 1) mt_M_net 84 [.ref mx, .int v1, .int v2] [] (I, L, ab_RR, n, nc, ns) res := by
  refine ab_aload_n (i := 0) d_M_net_84 rfl rfl ?_
  refine ab_getI (ci := 11) (k := 15) d_M_net_85 v_1383 rfl (by decide) (by decide) rfl ?_
  refine ab_if_ne (tgt := 105) d_M_net_88 (by decide) (fun c1 => ?_) (fun c1 => ?_)
  · have h := h.1 c1
    exact h
  · have h := h.2 c1
    refine ab_aload_n (i := 0) d_M_net_91 rfl rfl ?_
    refine ab_getI (ci := 11) (k := 11) d_M_net_92 v_1379 rfl (by decide) (by decide) rfl ?_
    refine ab_if_eq (tgt := 105) d_M_net_95 (by decide) (fun c2 => ?_) (fun c2 => ?_)
    · have h := h.1 c2
      exact h
    · have h := h.2 c2
      refine ab_aload_n (i := 0) d_M_net_98 rfl rfl ?_
      obtain ⟨I4, hC, h⟩ := h
      refine ab_callV (me2 := mt_M_readClause) (b := mx) (as := []) (st := []) (rv := none) (M2 := (I4, L, ab_RR, n, nc, ns)) d_M_net_99 ce_M_readClause v_1582 v_1584 v_69 (by decide) rfl (Nat.le_of_ble_eq_true rfl) hC (Nat.le_refl _) (Nat.le_refl _) hc hs (fun j h9 => by cases h9) (fun _ _ => rfl) ?_
      show ab_E w (d + 1) mt_M_net 102 [.ref mx, .int v1, .int v2] [] (I4, L, ab_RR, n, nc, ns) res
      refine ab_goto (tgt := 84) d_M_net_102 (by decide) ?_
      exact h
theorem q_M_net_105 {w : ab_Wd} {d n nc ns : Nat} {I : Nat → Nat → Int32} {L : Nat → Nat → Int64} {res : ab_Re} (v1 : Int32) (v2 : Int32) (hc : nc ≤ res.2.2.2.2.2.1) (hs : ns ≤ res.2.2.2.2.2.2)
    (h : (((I mx 15) = 0 → (∃ (r2 : Int32), ab_C w d mt_M_sitesRead [.ref mx] (I, L, ab_RR, n, nc, ns) (.inl (some (.int r2)), (I, L, ab_RR, n, nc, ns)) ∧ ∃ (I4 : Nat → Nat → Int32), ab_C w d mt_M_copyTo [.ref mx_now, .ref mx_reading] ((ab_up I mx 2 r2), L, ab_RR, n, nc, ns) (.inl none, (I4, L, ab_RR, n, nc, ns)) ∧ res = (.inl (some (.int 0)), ((ab_up (ab_up (ab_up I4 mx 41 0) mx 43 0) mx 52 0), L, ab_RR, n, nc, ns)))) ∧ (¬ (I mx 15) = 0 → (res = (.inl (some (.int (I mx 15))), ((ab_up (ab_up I mx 17 (I mx 16)) mx_status 0 ((I mx_status 0) + 1)), L, ab_RR, n, nc, ns)))))) : ab_E w (d + 1) mt_M_net 105 [.ref mx, .int v1, .int v2] [] (I, L, ab_RR, n, nc, ns) res := by
  refine ab_aload_n (i := 0) d_M_net_105 rfl rfl ?_
  refine ab_getI (ci := 11) (k := 15) d_M_net_106 v_1383 rfl (by decide) (by decide) rfl ?_
  refine ab_if_eq (tgt := 135) d_M_net_109 (by decide) (fun c1 => ?_) (fun c1 => ?_)
  · have h := h.1 c1
    refine ab_aload_n (i := 0) d_M_net_135 rfl rfl ?_
    refine ab_aload_n (i := 0) d_M_net_136 rfl rfl ?_
    obtain ⟨r2, hC, h⟩ := h
    refine ab_callV (me2 := mt_M_sitesRead) (b := mx) (as := []) (st := [.ref mx]) (rv := (some (.int r2))) (M2 := (I, L, ab_RR, n, nc, ns)) d_M_net_137 ce_M_sitesRead v_1612 v_1614 v_76 (by decide) rfl (Nat.le_of_ble_eq_true rfl) hC (Nat.le_refl _) (Nat.le_refl _) hc hs (fun j h9 => by cases h9) (fun _ _ => rfl) ?_
    show ab_E w (d + 1) mt_M_net 140 [.ref mx, .int v1, .int v2] [.int r2, .ref mx] (I, L, ab_RR, n, nc, ns) res
    refine ab_putI (ci := 11) (k := 2) d_M_net_140 v_1370 rfl (by decide) (by decide) rfl (Or.inl rfl) rfl rfl ?_
    refine ab_aload_n (i := 0) d_M_net_143 rfl rfl ?_
    refine ab_getR (ci := 11) (k := 4) (j := mx_now) d_M_net_144 v_1372 rfl (by decide) (by decide) rfl r_mx_4 ?_
    refine ab_aload_n (i := 0) d_M_net_147 rfl rfl ?_
    refine ab_getR (ci := 11) (k := 5) (j := mx_reading) d_M_net_148 v_1373 rfl (by decide) (by decide) rfl r_mx_5 ?_
    obtain ⟨I4, hC, h⟩ := h
    refine ab_callS (me2 := mt_M_copyTo) (as := [.ref mx_now, .ref mx_reading]) (st := []) (rv := none) (M2 := (I4, L, ab_RR, n, nc, ns)) d_M_net_151 ce_M_copyTo ⟨v_1625, Or.inl v_1624⟩ (Nat.le_of_ble_eq_true rfl) hC (Nat.le_refl _) (Nat.le_refl _) hc hs (fun j h9 => by cases h9) (fun _ _ => rfl) ?_
    show ab_E w (d + 1) mt_M_net 154 [.ref mx, .int v1, .int v2] [] (I4, L, ab_RR, n, nc, ns) res
    refine ab_aload_n (i := 0) d_M_net_154 rfl rfl ?_
    refine ab_iconst (v := 0) d_M_net_155 rfl ?_
    refine ab_putI (ci := 11) (k := 41) d_M_net_156 v_1409 rfl (by decide) (by decide) rfl (Or.inl rfl) rfl rfl ?_
    refine ab_aload_n (i := 0) d_M_net_159 rfl rfl ?_
    refine ab_iconst (v := 0) d_M_net_160 rfl ?_
    refine ab_putI (ci := 11) (k := 43) d_M_net_161 v_1411 rfl (by decide) (by decide) rfl (Or.inl rfl) rfl rfl ?_
    refine ab_aload_n (i := 0) d_M_net_164 rfl rfl ?_
    refine ab_iconst (v := 0) d_M_net_165 rfl ?_
    refine ab_putI (ci := 11) (k := 52) d_M_net_166 v_1420 rfl (by decide) (by decide) rfl (Or.inl rfl) rfl rfl ?_
    refine ab_iconst (v := 0) d_M_net_169 rfl ?_
    exact ab_iret (ty := .int) d_M_net_170 rfl rfl h
  · have h := h.2 c1
    refine ab_aload_n (i := 0) d_M_net_112 rfl rfl ?_
    refine ab_aload_n (i := 0) d_M_net_113 rfl rfl ?_
    refine ab_getI (ci := 11) (k := 16) d_M_net_114 v_1384 rfl (by decide) (by decide) rfl ?_
    refine ab_putI (ci := 11) (k := 17) d_M_net_117 v_1385 rfl (by decide) (by decide) rfl (Or.inl rfl) rfl rfl ?_
    refine ab_aload_n (i := 0) d_M_net_120 rfl rfl ?_
    refine ab_getR (ci := 11) (k := 6) (j := mx_status) d_M_net_121 v_1374 rfl (by decide) (by decide) rfl r_mx_6 ?_
    refine ab_iconst (v := 0) d_M_net_124 rfl ?_
    refine ab_dup2 d_M_net_125 ?_
    refine ab_iald d_M_net_126 rfl rfl (by unfold vp_in; decide) ?_
    refine ab_iconst (v := 1) d_M_net_127 rfl ?_
    refine ab_iadd d_M_net_128 ?_
    refine ab_iast d_M_net_129 rfl rfl (by unfold vp_in; decide) ?_
    refine ab_aload_n (i := 0) d_M_net_130 rfl rfl ?_
    refine ab_getI (ci := 11) (k := 15) d_M_net_131 v_1383 rfl (by decide) (by decide) rfl ?_
    exact ab_iret (ty := .int) d_M_net_134 rfl rfl h
theorem d_M_fault_0 : decode (ab_bc mt_M_fault) 0 = .ok (.aload_n 0, 1) := by decide +kernel
theorem d_M_fault_1 : decode (ab_bc mt_M_fault) 1 = .ok (.iconst 0, 1) := by decide +kernel
theorem d_M_fault_2 : decode (ab_bc mt_M_fault) 2 = .ok (.putfield 108, 3) := by decide +kernel
theorem d_M_fault_5 : decode (ab_bc mt_M_fault) 5 = .ok (.aload_n 0, 1) := by decide +kernel
theorem d_M_fault_6 : decode (ab_bc mt_M_fault) 6 = .ok (.getfield 37, 3) := by decide +kernel
theorem d_M_fault_9 : decode (ab_bc mt_M_fault) 9 = .ok (.ireturn, 1) := by decide +kernel
-- CableKeeperModel.fault()I over mx
theorem q_M_fault_0 {w : ab_Wd} {d n nc ns : Nat} {I : Nat → Nat → Int32} {L : Nat → Nat → Int64} {res : ab_Re}  (hc : nc ≤ res.2.2.2.2.2.1) (hs : ns ≤ res.2.2.2.2.2.2)
    (h : res = (.inl (some (.int (I mx 17))), ((ab_up I mx 1 0), L, ab_RR, n, nc, ns))) : ab_E w d mt_M_fault 0 [.ref mx] [] (I, L, ab_RR, n, nc, ns) res := by
  refine ab_aload_n (i := 0) d_M_fault_0 rfl rfl ?_
  refine ab_iconst (v := 0) d_M_fault_1 rfl ?_
  refine ab_putI (ci := 11) (k := 1) d_M_fault_2 v_1369 rfl (by decide) (by decide) rfl (Or.inl rfl) rfl rfl ?_
  refine ab_aload_n (i := 0) d_M_fault_5 rfl rfl ?_
  refine ab_getI (ci := 11) (k := 17) d_M_fault_6 v_1385 rfl (by decide) (by decide) rfl ?_
  exact ab_iret (ty := .int) d_M_fault_9 rfl rfl h
theorem d_M_many_0 : decode (ab_bc mt_M_many) 0 = .ok (.aload_n 0, 1) := by decide +kernel
theorem d_M_many_1 : decode (ab_bc mt_M_many) 1 = .ok (.getfield 24, 3) := by decide +kernel
theorem d_M_many_4 : decode (ab_bc mt_M_many) 4 = .ok (.iconst 0, 1) := by decide +kernel
theorem d_M_many_5 : decode (ab_bc mt_M_many) 5 = .ok (.iaload, 1) := by decide +kernel
theorem d_M_many_6 : decode (ab_bc mt_M_many) 6 = .ok (.ireturn, 1) := by decide +kernel
-- CableKeeperModel.many()I over mx
theorem q_M_many_0 {w : ab_Wd} {d n nc ns : Nat} {I : Nat → Nat → Int32} {L : Nat → Nat → Int64} {res : ab_Re}  (hc : nc ≤ res.2.2.2.2.2.1) (hs : ns ≤ res.2.2.2.2.2.2)
    (h : res = (.inl (some (.int (I mx_now 0))), (I, L, ab_RR, n, nc, ns))) : ab_E w d mt_M_many 0 [.ref mx] [] (I, L, ab_RR, n, nc, ns) res := by
  refine ab_aload_n (i := 0) d_M_many_0 rfl rfl ?_
  refine ab_getR (ci := 11) (k := 4) (j := mx_now) d_M_many_1 v_1372 rfl (by decide) (by decide) rfl r_mx_4 ?_
  refine ab_iconst (v := 0) d_M_many_4 rfl ?_
  refine ab_iald d_M_many_5 rfl rfl (by unfold vp_in; decide) ?_
  exact ab_iret (ty := .int) d_M_many_6 rfl rfl h
theorem d_M_priceOf_0 : decode (ab_bc mt_M_priceOf) 0 = .ok (.aload_n 0, 1) := by decide +kernel
theorem d_M_priceOf_1 : decode (ab_bc mt_M_priceOf) 1 = .ok (.getfield 24, 3) := by decide +kernel
theorem d_M_priceOf_4 : decode (ab_bc mt_M_priceOf) 4 = .ok (.bipush 51, 2) := by decide +kernel
theorem d_M_priceOf_6 : decode (ab_bc mt_M_priceOf) 6 = .ok (.iload_n 1, 1) := by decide +kernel
theorem d_M_priceOf_7 : decode (ab_bc mt_M_priceOf) 7 = .ok (.iadd, 1) := by decide +kernel
theorem d_M_priceOf_8 : decode (ab_bc mt_M_priceOf) 8 = .ok (.iaload, 1) := by decide +kernel
theorem d_M_priceOf_9 : decode (ab_bc mt_M_priceOf) 9 = .ok (.ireturn, 1) := by decide +kernel
-- CableKeeperModel.priceOf(I)I over mx
theorem q_M_priceOf_0 {w : ab_Wd} {d n nc ns : Nat} {I : Nat → Nat → Int32} {L : Nat → Nat → Int64} {res : ab_Re} (v1 : Int32) (hc : nc ≤ res.2.2.2.2.2.1) (hs : ns ≤ res.2.2.2.2.2.2)
    (h : (vp_in (51 + v1) 399) ∧ res = (.inl (some (.int (I mx_now (51 + v1).toNatClampNeg))), (I, L, ab_RR, n, nc, ns))) : ab_E w d mt_M_priceOf 0 [.ref mx, .int v1] [] (I, L, ab_RR, n, nc, ns) res := by
  refine ab_aload_n (i := 0) d_M_priceOf_0 rfl rfl ?_
  refine ab_getR (ci := 11) (k := 4) (j := mx_now) d_M_priceOf_1 v_1372 rfl (by decide) (by decide) rfl r_mx_4 ?_
  refine ab_bipush (v := 51) d_M_priceOf_4 rfl ?_
  refine ab_iload_n (i := 1) d_M_priceOf_6 rfl rfl ?_
  refine ab_iadd d_M_priceOf_7 ?_
  have g1 := h.1; have h := h.2
  refine ab_iald d_M_priceOf_8 rfl rfl g1 ?_
  exact ab_iret (ty := .int) d_M_priceOf_9 rfl rfl h
