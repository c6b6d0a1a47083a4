theorem d_M_numberNow_0 : decode (ab_bc mt_M_numberNow) 0 = .ok (.aload_n 0, 1) := by decide +kernel
theorem d_M_numberNow_1 : decode (ab_bc mt_M_numberNow) 1 = .ok (.getfield 150, 3) := by decide +kernel
theorem d_M_numberNow_4 : decode (ab_bc mt_M_numberNow) 4 = .ok (.ifCond .eq 5, 3) := by decide +kernel
theorem d_M_numberNow_7 : decode (ab_bc mt_M_numberNow) 7 = .ok (.iload_n 1, 1) := by decide +kernel
theorem d_M_numberNow_8 : decode (ab_bc mt_M_numberNow) 8 = .ok (.ireturn, 1) := by decide +kernel
theorem d_M_numberNow_9 : decode (ab_bc mt_M_numberNow) 9 = .ok (.aload_n 0, 1) := by decide +kernel
theorem d_M_numberNow_10 : decode (ab_bc mt_M_numberNow) 10 = .ok (.getfield 127, 3) := by decide +kernel
theorem d_M_numberNow_13 : decode (ab_bc mt_M_numberNow) 13 = .ok (.iconst 2, 1) := by decide +kernel
theorem d_M_numberNow_14 : decode (ab_bc mt_M_numberNow) 14 = .ok (.if_icmp .eq 11, 3) := by decide +kernel
theorem d_M_numberNow_17 : decode (ab_bc mt_M_numberNow) 17 = .ok (.aload_n 0, 1) := by decide +kernel
theorem d_M_numberNow_18 : decode (ab_bc mt_M_numberNow) 18 = .ok (.iconst 1, 1) := by decide +kernel
theorem d_M_numberNow_19 : decode (ab_bc mt_M_numberNow) 19 = .ok (.invokevirtual 168, 3) := by decide +kernel
theorem d_M_numberNow_22 : decode (ab_bc mt_M_numberNow) 22 = .ok (.goto 37, 3) := by decide +kernel
theorem d_M_numberNow_25 : decode (ab_bc mt_M_numberNow) 25 = .ok (.aload_n 0, 1) := by decide +kernel
theorem d_M_numberNow_26 : decode (ab_bc mt_M_numberNow) 26 = .ok (.getfield 147, 3) := by decide +kernel
theorem d_M_numberNow_29 : decode (ab_bc mt_M_numberNow) 29 = .ok (.aload_n 0, 1) := by decide +kernel
theorem d_M_numberNow_30 : decode (ab_bc mt_M_numberNow) 30 = .ok (.getfield 124, 3) := by decide +kernel
theorem d_M_numberNow_33 : decode (ab_bc mt_M_numberNow) 33 = .ok (.isub, 1) := by decide +kernel
theorem d_M_numberNow_34 : decode (ab_bc mt_M_numberNow) 34 = .ok (.iconst 3, 1) := by decide +kernel
theorem d_M_numberNow_35 : decode (ab_bc mt_M_numberNow) 35 = .ok (.if_icmp .gt 19, 3) := by decide +kernel
theorem d_M_numberNow_38 : decode (ab_bc mt_M_numberNow) 38 = .ok (.aload_n 0, 1) := by decide +kernel
theorem d_M_numberNow_39 : decode (ab_bc mt_M_numberNow) 39 = .ok (.getfield 137, 3) := by decide +kernel
theorem d_M_numberNow_42 : decode (ab_bc mt_M_numberNow) 42 = .ok (.iload_n 1, 1) := by decide +kernel
theorem d_M_numberNow_43 : decode (ab_bc mt_M_numberNow) 43 = .ok (.if_icmp .lt 11, 3) := by decide +kernel
theorem d_M_numberNow_46 : decode (ab_bc mt_M_numberNow) 46 = .ok (.aload_n 0, 1) := by decide +kernel
theorem d_M_numberNow_47 : decode (ab_bc mt_M_numberNow) 47 = .ok (.getfield 137, 3) := by decide +kernel
theorem d_M_numberNow_50 : decode (ab_bc mt_M_numberNow) 50 = .ok (.iload_n 2, 1) := by decide +kernel
theorem d_M_numberNow_51 : decode (ab_bc mt_M_numberNow) 51 = .ok (.if_icmp .le 8, 3) := by decide +kernel
theorem d_M_numberNow_54 : decode (ab_bc mt_M_numberNow) 54 = .ok (.aload_n 0, 1) := by decide +kernel
theorem d_M_numberNow_55 : decode (ab_bc mt_M_numberNow) 55 = .ok (.iconst 2, 1) := by decide +kernel
theorem d_M_numberNow_56 : decode (ab_bc mt_M_numberNow) 56 = .ok (.invokevirtual 168, 3) := by decide +kernel
theorem d_M_numberNow_59 : decode (ab_bc mt_M_numberNow) 59 = .ok (.aload_n 0, 1) := by decide +kernel
theorem d_M_numberNow_60 : decode (ab_bc mt_M_numberNow) 60 = .ok (.getfield 150, 3) := by decide +kernel
theorem d_M_numberNow_63 : decode (ab_bc mt_M_numberNow) 63 = .ok (.ifCond .ne 10, 3) := by decide +kernel
theorem d_M_numberNow_66 : decode (ab_bc mt_M_numberNow) 66 = .ok (.aload_n 0, 1) := by decide +kernel
theorem d_M_numberNow_67 : decode (ab_bc mt_M_numberNow) 67 = .ok (.getfield 137, 3) := by decide +kernel
theorem d_M_numberNow_70 : decode (ab_bc mt_M_numberNow) 70 = .ok (.goto 4, 3) := by decide +kernel
theorem d_M_numberNow_73 : decode (ab_bc mt_M_numberNow) 73 = .ok (.iload_n 1, 1) := by decide +kernel
theorem d_M_numberNow_74 : decode (ab_bc mt_M_numberNow) 74 = .ok (.ireturn, 1) := by decide +kernel
-- CableKeeperModel.numberNow(II)I over mx
theorem q_M_numberNow_0 {w : ab_Wd} {d n nc ns : Nat} {I : Nat → Nat → Int32} {L : Nat → Nat → Int64} {res : ab_Re} (v1 : Int32) (v2 : Int32) (hc : nc ≤ res.2.2.2.2.2.1) (hs : ns ≤ res.2.2.2.2.2.2)
    (h : (((I mx 15) = 0 → (((I mx 11) = 2 → ((3 < ((I mx 14) - (I mx 13)) → (ab_E w (d + 1) mt_M_numberNow 54 [.ref mx, .int v1, .int v2] [] (I, L, ab_RR, n, nc, ns) res)) ∧ (¬ 3 < ((I mx 14) - (I mx 13)) → (((I mx 12) < v1 → (ab_E w (d + 1) mt_M_numberNow 54 [.ref mx, .int v1, .int v2] [] (I, L, ab_RR, n, nc, ns) res)) ∧ (¬ (I mx 12) < v1 → (((I mx 12) ≤ v2 → (ab_E w (d + 1) mt_M_numberNow 59 [.ref mx, .int v1, .int v2] [] (I, L, ab_RR, n, nc, ns) res)) ∧ (¬ (I mx 12) ≤ v2 → (ab_E w (d + 1) mt_M_numberNow 54 [.ref mx, .int v1, .int v2] [] (I, L, ab_RR, n, nc, ns) res)))))))) ∧ (¬ (I mx 11) = 2 → (∃ (I7 : Nat → Nat → Int32), ab_C w d mt_M_wrong [.ref mx, .int 1] (I, L, ab_RR, n, nc, ns) (.inl none, (I7, L, ab_RR, n, nc, ns)) ∧ ab_E w (d + 1) mt_M_numberNow 59 [.ref mx, .int v1, .int v2] [] (I7, L, ab_RR, n, nc, ns) res)))) ∧ (¬ (I mx 15) = 0 → (res = (.inl (some (.int v1)), (I, L, ab_RR, n, nc, ns)))))) : ab_E w (d + 1) mt_M_numberNow 0 [.ref mx, .int v1, .int v2] [] (I, L, ab_RR, n, nc, ns) res := by
  refine ab_aload_n (i := 0) d_M_numberNow_0 rfl rfl ?_
  refine ab_getI (ci := 11) (k := 15) d_M_numberNow_1 v_1383 rfl (by decide) (by decide) rfl ?_
  refine ab_if_eq (tgt := 9) d_M_numberNow_4 (by decide) (fun c1 => ?_) (fun c1 => ?_)
  · have h := h.1 c1
    refine ab_aload_n (i := 0) d_M_numberNow_9 rfl rfl ?_
    refine ab_getI (ci := 11) (k := 11) d_M_numberNow_10 v_1379 rfl (by decide) (by decide) rfl ?_
    refine ab_iconst (v := 2) d_M_numberNow_13 rfl ?_
    refine ab_icmp_eq (tgt := 25) d_M_numberNow_14 (by decide) (fun c2 => ?_) (fun c2 => ?_)
    · have h := h.1 c2
      refine ab_aload_n (i := 0) d_M_numberNow_25 rfl rfl ?_
      refine ab_getI (ci := 11) (k := 14) d_M_numberNow_26 v_1382 rfl (by decide) (by decide) rfl ?_
      refine ab_aload_n (i := 0) d_M_numberNow_29 rfl rfl ?_
      refine ab_getI (ci := 11) (k := 13) d_M_numberNow_30 v_1381 rfl (by decide) (by decide) rfl ?_
      refine ab_isub d_M_numberNow_33 ?_
      refine ab_iconst (v := 3) d_M_numberNow_34 rfl ?_
      refine ab_icmp_gt (tgt := 54) d_M_numberNow_35 (by decide) (fun c3 => ?_) (fun c3 => ?_)
      · have h := h.1 c3
        exact h
      · have h := h.2 c3
        refine ab_aload_n (i := 0) d_M_numberNow_38 rfl rfl ?_
        refine ab_getI (ci := 11) (k := 12) d_M_numberNow_39 v_1380 rfl (by decide) (by decide) rfl ?_
        refine ab_iload_n (i := 1) d_M_numberNow_42 rfl rfl ?_
        refine ab_icmp_lt (tgt := 54) d_M_numberNow_43 (by decide) (fun c4 => ?_) (fun c4 => ?_)
        · have h := h.1 c4
          exact h
        · have h := h.2 c4
          refine ab_aload_n (i := 0) d_M_numberNow_46 rfl rfl ?_
          refine ab_getI (ci := 11) (k := 12) d_M_numberNow_47 v_1380 rfl (by decide) (by decide) rfl ?_
          refine ab_iload_n (i := 2) d_M_numberNow_50 rfl rfl ?_
          refine ab_icmp_le (tgt := 59) d_M_numberNow_51 (by decide) (fun c5 => ?_) (fun c5 => ?_)
          · have h := h.1 c5
            exact h
          · have h := h.2 c5
            exact h
    · have h := h.2 c2
      refine ab_aload_n (i := 0) d_M_numberNow_17 rfl rfl ?_
      refine ab_iconst (v := 1) d_M_numberNow_18 rfl ?_
      obtain ⟨I7, hC, h⟩ := h
      refine ab_callV (me2 := mt_M_wrong) (b := mx) (as := [.int 1]) (st := []) (rv := none) (M2 := (I7, L, ab_RR, n, nc, ns)) d_M_numberNow_19 ce_M_wrong v_1596 v_1598 v_72 (by decide) rfl (Nat.le_of_ble_eq_true rfl) hC (Nat.le_refl _) (Nat.le_refl _) hc hs (fun j h9 => by cases h9) (fun _ _ => rfl) ?_
      show ab_E w (d + 1) mt_M_numberNow 22 [.ref mx, .int v1, .int v2] [] (I7, L, ab_RR, n, nc, ns) res
      refine ab_goto (tgt := 59) d_M_numberNow_22 (by decide) ?_
      exact h
  · have h := h.2 c1
    refine ab_iload_n (i := 1) d_M_numberNow_7 rfl rfl ?_
    exact ab_iret (ty := .int) d_M_numberNow_8 rfl rfl h
theorem q_M_numberNow_54 {w : ab_Wd} {d n nc ns : Nat} {I : Nat → Nat → Int32} {L : Nat → Nat → Int64} {res : ab_Re} (v1 : Int32) (v2 : Int32) (hc : nc ≤ res.2.2.2.2.2.1) (hs : ns ≤ res.2.2.2.2.2.2)
    (h : ∃ (I2 : Nat → Nat → Int32), ab_C w d mt_M_wrong [.ref mx, .int 2] (I, L, ab_RR, n, nc, ns) (.inl none, (I2, L, ab_RR, n, nc, ns)) ∧ ab_E w (d + 1) mt_M_numberNow 59 [.ref mx, .int v1, .int v2] [] (I2, L, ab_RR, n, nc, ns) res) : ab_E w (d + 1) mt_M_numberNow 54 [.ref mx, .int v1, .int v2] [] (I, L, ab_RR, n, nc, ns) res := by
  refine ab_aload_n (i := 0) d_M_numberNow_54 rfl rfl ?_
  refine ab_iconst (v := 2) d_M_numberNow_55 rfl ?_
  obtain ⟨I2, hC, h⟩ := h
  refine ab_callV (me2 := mt_M_wrong) (b := mx) (as := [.int 2]) (st := []) (rv := none) (M2 := (I2, L, ab_RR, n, nc, ns)) d_M_numberNow_56 ce_M_wrong v_1596 v_1598 v_72 (by decide) rfl (Nat.le_of_ble_eq_true rfl) hC (Nat.le_refl _) (Nat.le_refl _) hc hs (fun j h9 => by cases h9) (fun _ _ => rfl) ?_
  show ab_E w (d + 1) mt_M_numberNow 59 [.ref mx, .int v1, .int v2] [] (I2, L, ab_RR, n, nc, ns) res
  exact h
theorem q_M_numberNow_59 {w : ab_Wd} {d n nc ns : Nat} {I : Nat → Nat → Int32} {L : Nat → Nat → Int64} {res : ab_Re} (v1 : Int32) (v2 : Int32) (hc : nc ≤ res.2.2.2.2.2.1) (hs : ns ≤ res.2.2.2.2.2.2)
    (h : ((¬ (I mx 15) = 0 → (ab_E w (d + 1) mt_M_numberNow 74 [.ref mx, .int v1, .int v2] [.int v1] (I, L, ab_RR, n, nc, ns) res)) ∧ ((I mx 15) = 0 → (ab_E w (d + 1) mt_M_numberNow 74 [.ref mx, .int v1, .int v2] [.int (I mx 12)] (I, L, ab_RR, n, nc, ns) res)))) : ab_E w (d + 1) mt_M_numberNow 59 [.ref mx, .int v1, .int v2] [] (I, L, ab_RR, n, nc, ns) res := by
  refine ab_aload_n (i := 0) d_M_numberNow_59 rfl rfl ?_
  refine ab_getI (ci := 11) (k := 15) d_M_numberNow_60 v_1383 rfl (by decide) (by decide) rfl ?_
  refine ab_if_ne (tgt := 73) d_M_numberNow_63 (by decide) (fun c1 => ?_) (fun c1 => ?_)
  · have h := h.1 c1
    refine ab_iload_n (i := 1) d_M_numberNow_73 rfl rfl ?_
    exact h
  · have h := h.2 c1
    refine ab_aload_n (i := 0) d_M_numberNow_66 rfl rfl ?_
    refine ab_getI (ci := 11) (k := 12) d_M_numberNow_67 v_1380 rfl (by decide) (by decide) rfl ?_
    refine ab_goto (tgt := 74) d_M_numberNow_70 (by decide) ?_
    exact h
theorem q_M_numberNow_74 {w : ab_Wd} {d n nc ns : Nat} {I : Nat → Nat → Int32} {L : Nat → Nat → Int64} {res : ab_Re} (v1 : Int32) (v2 : Int32) (s0 : Int32) (hc : nc ≤ res.2.2.2.2.2.1) (hs : ns ≤ res.2.2.2.2.2.2)
    (h : res = (.inl (some (.int s0)), (I, L, ab_RR, n, nc, ns))) : ab_E w (d + 1) mt_M_numberNow 74 [.ref mx, .int v1, .int v2] [.int s0] (I, L, ab_RR, n, nc, ns) res := by
  exact ab_iret (ty := .int) d_M_numberNow_74 rfl rfl h
theorem d_M_readNumber_0 : decode (ab_bc mt_M_readNumber) 0 = .ok (.aload_n 0, 1) := by decide +kernel
theorem d_M_readNumber_1 : decode (ab_bc mt_M_readNumber) 1 = .ok (.iload_n 1, 1) := by decide +kernel
theorem d_M_readNumber_2 : decode (ab_bc mt_M_readNumber) 2 = .ok (.iload_n 2, 1) := by decide +kernel
theorem d_M_readNumber_3 : decode (ab_bc mt_M_readNumber) 3 = .ok (.invokevirtual 172, 3) := by decide +kernel
theorem d_M_readNumber_6 : decode (ab_bc mt_M_readNumber) 6 = .ok (.istore_n 3, 1) := by decide +kernel
theorem d_M_readNumber_7 : decode (ab_bc mt_M_readNumber) 7 = .ok (.aload_n 0, 1) := by decide +kernel
theorem d_M_readNumber_8 : decode (ab_bc mt_M_readNumber) 8 = .ok (.getfield 150, 3) := by decide +kernel
theorem d_M_readNumber_11 : decode (ab_bc mt_M_readNumber) 11 = .ok (.ifCond .ne 7, 3) := by decide +kernel
theorem d_M_readNumber_14 : decode (ab_bc mt_M_readNumber) 14 = .ok (.aload_n 0, 1) := by decide +kernel
theorem d_M_readNumber_15 : decode (ab_bc mt_M_readNumber) 15 = .ok (.invokevirtual 175, 3) := by decide +kernel
theorem d_M_readNumber_18 : decode (ab_bc mt_M_readNumber) 18 = .ok (.iload_n 3, 1) := by decide +kernel
theorem d_M_readNumber_19 : decode (ab_bc mt_M_readNumber) 19 = .ok (.ireturn, 1) := by decide +kernel
-- CableKeeperModel.readNumber(II)I over mx
theorem q_M_readNumber_0 {w : ab_Wd} {d n nc ns : Nat} {I : Nat → Nat → Int32} {L : Nat → Nat → Int64} {res : ab_Re} (v1 : Int32) (v2 : Int32) (hc : nc ≤ res.2.2.2.2.2.1) (hs : ns ≤ res.2.2.2.2.2.2)
    (h : ∃ (r1 : Int32) (I2 : Nat → Nat → Int32), ab_C w d mt_M_numberNow [.ref mx, .int v1, .int v2] (I, L, ab_RR, n, nc, ns) (.inl (some (.int r1)), (I2, L, ab_RR, n, nc, ns)) ∧ ((¬ (I2 mx 15) = 0 → (ab_E w (d + 1) mt_M_readNumber 18 [.ref mx, .int v1, .int v2, .int r1] [] (I2, L, ab_RR, n, nc, ns) res)) ∧ ((I2 mx 15) = 0 → (∃ (I5 : Nat → Nat → Int32), ab_C w d mt_M_stepOn [.ref mx] (I2, L, ab_RR, n, nc, ns) (.inl none, (I5, L, ab_RR, n, nc, ns)) ∧ ab_E w (d + 1) mt_M_readNumber 18 [.ref mx, .int v1, .int v2, .int r1] [] (I5, L, ab_RR, n, nc, ns) res)))) : ab_E w (d + 1) mt_M_readNumber 0 [.ref mx, .int v1, .int v2, .null] [] (I, L, ab_RR, n, nc, ns) res := by
  refine ab_aload_n (i := 0) d_M_readNumber_0 rfl rfl ?_
  refine ab_iload_n (i := 1) d_M_readNumber_1 rfl rfl ?_
  refine ab_iload_n (i := 2) d_M_readNumber_2 rfl rfl ?_
  obtain ⟨r1, I2, hC, h⟩ := h
  refine ab_callV (me2 := mt_M_numberNow) (b := mx) (as := [.int v1, .int v2]) (st := []) (rv := (some (.int r1))) (M2 := (I2, L, ab_RR, n, nc, ns)) d_M_readNumber_3 ce_M_numberNow v_1608 v_1610 v_75 (by decide) rfl (Nat.le_of_ble_eq_true rfl) hC (Nat.le_refl _) (Nat.le_refl _) hc hs (fun j h9 => by cases h9) (fun _ _ => rfl) ?_
  show ab_E w (d + 1) mt_M_readNumber 6 [.ref mx, .int v1, .int v2, .null] [.int r1] (I2, L, ab_RR, n, nc, ns) res
  refine ab_istore_n (i := 3) d_M_readNumber_6 rfl (by decide) (Or.inr rfl) ?_
  refine ab_aload_n (i := 0) d_M_readNumber_7 rfl rfl ?_
  refine ab_getI (ci := 11) (k := 15) d_M_readNumber_8 v_1383 rfl (by decide) (by decide) rfl ?_
  refine ab_if_ne (tgt := 18) d_M_readNumber_11 (by decide) (fun c3 => ?_) (fun c3 => ?_)
  · have h := h.1 c3
    exact h
  · have h := h.2 c3
    refine ab_aload_n (i := 0) d_M_readNumber_14 rfl rfl ?_
    obtain ⟨I5, hC, h⟩ := h
    refine ab_callV (me2 := mt_M_stepOn) (b := mx) (as := []) (st := []) (rv := none) (M2 := (I5, L, ab_RR, n, nc, ns)) d_M_readNumber_15 ce_M_stepOn v_1566 v_1568 v_67 (by decide) rfl (Nat.le_of_ble_eq_true rfl) hC (Nat.le_refl _) (Nat.le_refl _) hc hs (fun j h9 => by cases h9) (fun _ _ => rfl) ?_
    show ab_E w (d + 1) mt_M_readNumber 18 [.ref mx, .int v1, .int v2, .int r1] [] (I5, L, ab_RR, n, nc, ns) res
    exact h
theorem q_M_readNumber_18 {w : ab_Wd} {d n nc ns : Nat} {I : Nat → Nat → Int32} {L : Nat → Nat → Int64} {res : ab_Re} (v1 : Int32) (v2 : Int32) (v3 : Int32) (hc : nc ≤ res.2.2.2.2.2.1) (hs : ns ≤ res.2.2.2.2.2.2)
    (h : res = (.inl (some (.int v3)), (I, L, ab_RR, n, nc, ns))) : ab_E w (d + 1) mt_M_readNumber 18 [.ref mx, .int v1, .int v2, .int v3] [] (I, L, ab_RR, n, nc, ns) res := by
  refine ab_iload_n (i := 3) d_M_readNumber_18 rfl rfl ?_
  exact ab_iret (ty := .int) d_M_readNumber_19 rfl rfl h
theorem d_M_sitesRead_0 : decode (ab_bc mt_M_sitesRead) 0 = .ok (.aload_n 0, 1) := by decide +kernel
theorem d_M_sitesRead_1 : decode (ab_bc mt_M_sitesRead) 1 = .ok (.getfield 178, 3) := by decide +kernel
theorem d_M_sitesRead_4 : decode (ab_bc mt_M_sitesRead) 4 = .ok (.iconst (-1), 1) := by decide +kernel
theorem d_M_sitesRead_5 : decode (ab_bc mt_M_sitesRead) 5 = .ok (.if_icmp .ne 7, 3) := by decide +kernel
theorem d_M_sitesRead_8 : decode (ab_bc mt_M_sitesRead) 8 = .ok (.iconst 4, 1) := by decide +kernel
theorem d_M_sitesRead_9 : decode (ab_bc mt_M_sitesRead) 9 = .ok (.goto 7, 3) := by decide +kernel
theorem d_M_sitesRead_12 : decode (ab_bc mt_M_sitesRead) 12 = .ok (.aload_n 0, 1) := by decide +kernel
theorem d_M_sitesRead_13 : decode (ab_bc mt_M_sitesRead) 13 = .ok (.getfield 178, 3) := by decide +kernel
theorem d_M_sitesRead_16 : decode (ab_bc mt_M_sitesRead) 16 = .ok (.ireturn, 1) := by decide +kernel
-- CableKeeperModel.sitesRead()I over mx
theorem q_M_sitesRead_0 {w : ab_Wd} {d n nc ns : Nat} {I : Nat → Nat → Int32} {L : Nat → Nat → Int64} {res : ab_Re}  (hc : nc ≤ res.2.2.2.2.2.1) (hs : ns ≤ res.2.2.2.2.2.2)
    (h : ((¬ (I mx 3) = (-1) → (ab_E w d mt_M_sitesRead 16 [.ref mx] [.int (I mx 3)] (I, L, ab_RR, n, nc, ns) res)) ∧ ((I mx 3) = (-1) → (ab_E w d mt_M_sitesRead 16 [.ref mx] [.int 4] (I, L, ab_RR, n, nc, ns) res)))) : ab_E w d mt_M_sitesRead 0 [.ref mx] [] (I, L, ab_RR, n, nc, ns) res := by
  refine ab_aload_n (i := 0) d_M_sitesRead_0 rfl rfl ?_
  refine ab_getI (ci := 11) (k := 3) d_M_sitesRead_1 v_1371 rfl (by decide) (by decide) rfl ?_
  refine ab_iconst (v := (-1)) d_M_sitesRead_4 rfl ?_
  refine ab_icmp_ne (tgt := 12) d_M_sitesRead_5 (by decide) (fun c1 => ?_) (fun c1 => ?_)
  · have h := h.1 c1
    refine ab_aload_n (i := 0) d_M_sitesRead_12 rfl rfl ?_
    refine ab_getI (ci := 11) (k := 3) d_M_sitesRead_13 v_1371 rfl (by decide) (by decide) rfl ?_
    exact h
  · have h := h.2 c1
    refine ab_iconst (v := 4) d_M_sitesRead_8 rfl ?_
    refine ab_goto (tgt := 16) d_M_sitesRead_9 (by decide) ?_
    exact h
theorem q_M_sitesRead_16 {w : ab_Wd} {d n nc ns : Nat} {I : Nat → Nat → Int32} {L : Nat → Nat → Int64} {res : ab_Re} (s0 : Int32) (hc : nc ≤ res.2.2.2.2.2.1) (hs : ns ≤ res.2.2.2.2.2.2)
    (h : res = (.inl (some (.int s0)), (I, L, ab_RR, n, nc, ns))) : ab_E w d mt_M_sitesRead 16 [.ref mx] [.int s0] (I, L, ab_RR, n, nc, ns) res := by
  exact ab_iret (ty := .int) d_M_sitesRead_16 rfl rfl h
theorem d_M_siteNow_0 : decode (ab_bc mt_M_siteNow) 0 = .ok (.aload_n 0, 1) := by decide +kernel
theorem d_M_siteNow_1 : decode (ab_bc mt_M_siteNow) 1 = .ok (.iconst 0, 1) := by decide +kernel
theorem d_M_siteNow_2 : decode (ab_bc mt_M_siteNow) 2 = .ok (.bipush 9, 2) := by decide +kernel
theorem d_M_siteNow_4 : decode (ab_bc mt_M_siteNow) 4 = .ok (.invokevirtual 172, 3) := by decide +kernel
theorem d_M_siteNow_7 : decode (ab_bc mt_M_siteNow) 7 = .ok (.istore_n 1, 1) := by decide +kernel
theorem d_M_siteNow_8 : decode (ab_bc mt_M_siteNow) 8 = .ok (.aload_n 0, 1) := by decide +kernel
theorem d_M_siteNow_9 : decode (ab_bc mt_M_siteNow) 9 = .ok (.getfield 150, 3) := by decide +kernel
theorem d_M_siteNow_12 : decode (ab_bc mt_M_siteNow) 12 = .ok (.ifCond .ne 16, 3) := by decide +kernel
theorem d_M_siteNow_15 : decode (ab_bc mt_M_siteNow) 15 = .ok (.iload_n 1, 1) := by decide +kernel
theorem d_M_siteNow_16 : decode (ab_bc mt_M_siteNow) 16 = .ok (.aload_n 0, 1) := by decide +kernel
theorem d_M_siteNow_17 : decode (ab_bc mt_M_siteNow) 17 = .ok (.invokevirtual 181, 3) := by decide +kernel
theorem d_M_siteNow_20 : decode (ab_bc mt_M_siteNow) 20 = .ok (.if_icmp .lt 8, 3) := by decide +kernel
theorem d_M_siteNow_23 : decode (ab_bc mt_M_siteNow) 23 = .ok (.aload_n 0, 1) := by decide +kernel
theorem d_M_siteNow_24 : decode (ab_bc mt_M_siteNow) 24 = .ok (.iconst 3, 1) := by decide +kernel
theorem d_M_siteNow_25 : decode (ab_bc mt_M_siteNow) 25 = .ok (.invokevirtual 168, 3) := by decide +kernel
theorem d_M_siteNow_28 : decode (ab_bc mt_M_siteNow) 28 = .ok (.iload_n 1, 1) := by decide +kernel
theorem d_M_siteNow_29 : decode (ab_bc mt_M_siteNow) 29 = .ok (.ireturn, 1) := by decide +kernel
-- CableKeeperModel.siteNow()I over mx
theorem q_M_siteNow_0 {w : ab_Wd} {d n nc ns : Nat} {I : Nat → Nat → Int32} {L : Nat → Nat → Int64} {res : ab_Re}  (hc : nc ≤ res.2.2.2.2.2.1) (hs : ns ≤ res.2.2.2.2.2.2)
    (h : ∃ (r1 : Int32) (I2 : Nat → Nat → Int32), ab_C w d mt_M_numberNow [.ref mx, .int 0, .int 9] (I, L, ab_RR, n, nc, ns) (.inl (some (.int r1)), (I2, L, ab_RR, n, nc, ns)) ∧ ((¬ (I2 mx 15) = 0 → (ab_E w (d + 1) mt_M_siteNow 28 [.ref mx, .int r1] [] (I2, L, ab_RR, n, nc, ns) res)) ∧ ((I2 mx 15) = 0 → (∃ (r4 : Int32), ab_C w d mt_M_sitesRead [.ref mx] (I2, L, ab_RR, n, nc, ns) (.inl (some (.int r4)), (I2, L, ab_RR, n, nc, ns)) ∧ ((r1 < r4 → (ab_E w (d + 1) mt_M_siteNow 28 [.ref mx, .int r1] [] (I2, L, ab_RR, n, nc, ns) res)) ∧ (¬ r1 < r4 → (∃ (I7 : Nat → Nat → Int32), ab_C w d mt_M_wrong [.ref mx, .int 3] (I2, L, ab_RR, n, nc, ns) (.inl none, (I7, L, ab_RR, n, nc, ns)) ∧ ab_E w (d + 1) mt_M_siteNow 28 [.ref mx, .int r1] [] (I7, L, ab_RR, n, nc, ns) res))))))) : ab_E w (d + 1) mt_M_siteNow 0 [.ref mx, .null] [] (I, L, ab_RR, n, nc, ns) res := by
  refine ab_aload_n (i := 0) d_M_siteNow_0 rfl rfl ?_
  refine ab_iconst (v := 0) d_M_siteNow_1 rfl ?_
  refine ab_bipush (v := 9) d_M_siteNow_2 rfl ?_
  obtain ⟨r1, I2, hC, h⟩ := h
  refine ab_callV (me2 := mt_M_numberNow) (b := mx) (as := [.int 0, .int 9]) (st := []) (rv := (some (.int r1))) (M2 := (I2, L, ab_RR, n, nc, ns)) d_M_siteNow_4 ce_M_numberNow v_1608 v_1610 v_75 (by decide) rfl (Nat.le_of_ble_eq_true rfl) hC (Nat.le_refl _) (Nat.le_refl _) hc hs (fun j h9 => by cases h9) (fun _ _ => rfl) ?_
  show ab_E w (d + 1) mt_M_siteNow 7 [.ref mx, .null] [.int r1] (I2, L, ab_RR, n, nc, ns) res
  refine ab_istore_n (i := 1) d_M_siteNow_7 rfl (by decide) (Or.inr rfl) ?_
  refine ab_aload_n (i := 0) d_M_siteNow_8 rfl rfl ?_
  refine ab_getI (ci := 11) (k := 15) d_M_siteNow_9 v_1383 rfl (by decide) (by decide) rfl ?_
  refine ab_if_ne (tgt := 28) d_M_siteNow_12 (by decide) (fun c3 => ?_) (fun c3 => ?_)
  · have h := h.1 c3
    exact h
  · have h := h.2 c3
    refine ab_iload_n (i := 1) d_M_siteNow_15 rfl rfl ?_
    refine ab_aload_n (i := 0) d_M_siteNow_16 rfl rfl ?_
    obtain ⟨r4, hC, h⟩ := h
    refine ab_callV (me2 := mt_M_sitesRead) (b := mx) (as := []) (st := [.int r1]) (rv := (some (.int r4))) (M2 := (I2, L, ab_RR, n, nc, ns)) d_M_siteNow_17 ce_M_sitesRead v_1612 v_1614 v_76 (by decide) rfl (Nat.le_of_ble_eq_true rfl) hC (Nat.le_refl _) (Nat.le_refl _) hc hs (fun j h9 => by cases h9) (fun _ _ => rfl) ?_
    show ab_E w (d + 1) mt_M_siteNow 20 [.ref mx, .int r1] [.int r4, .int r1] (I2, L, ab_RR, n, nc, ns) res
    refine ab_icmp_lt (tgt := 28) d_M_siteNow_20 (by decide) (fun c5 => ?_) (fun c5 => ?_)
    · have h := h.1 c5
      exact h
    · have h := h.2 c5
      refine ab_aload_n (i := 0) d_M_siteNow_23 rfl rfl ?_
      refine ab_iconst (v := 3) d_M_siteNow_24 rfl ?_
      obtain ⟨I7, hC, h⟩ := h
      refine ab_callV (me2 := mt_M_wrong) (b := mx) (as := [.int 3]) (st := []) (rv := none) (M2 := (I7, L, ab_RR, n, nc, ns)) d_M_siteNow_25 ce_M_wrong v_1596 v_1598 v_72 (by decide) rfl (Nat.le_of_ble_eq_true rfl) hC (Nat.le_refl _) (Nat.le_refl _) hc hs (fun j h9 => by cases h9) (fun _ _ => rfl) ?_
      show ab_E w (d + 1) mt_M_siteNow 28 [.ref mx, .int r1] [] (I7, L, ab_RR, n, nc, ns) res
      exact h
theorem q_M_siteNow_28 {w : ab_Wd} {d n nc ns : Nat} {I : Nat → Nat → Int32} {L : Nat → Nat → Int64} {res : ab_Re} (v1 : Int32) (hc : nc ≤ res.2.2.2.2.2.1) (hs : ns ≤ res.2.2.2.2.2.2)
    (h : res = (.inl (some (.int v1)), (I, L, ab_RR, n, nc, ns))) : ab_E w (d + 1) mt_M_siteNow 28 [.ref mx, .int v1] [] (I, L, ab_RR, n, nc, ns) res := by
  refine ab_iload_n (i := 1) d_M_siteNow_28 rfl rfl ?_
  exact ab_iret (ty := .int) d_M_siteNow_29 rfl rfl h
theorem d_M_readCable_0 : decode (ab_bc mt_M_readCable) 0 = .ok (.aload_n 0, 1) := by decide +kernel
theorem d_M_readCable_1 : decode (ab_bc mt_M_readCable) 1 = .ok (.getfield 28, 3) := by decide +kernel
theorem d_M_readCable_4 : decode (ab_bc mt_M_readCable) 4 = .ok (.iconst 0, 1) := by decide +kernel
theorem d_M_readCable_5 : decode (ab_bc mt_M_readCable) 5 = .ok (.iaload, 1) := by decide +kernel
theorem d_M_readCable_6 : decode (ab_bc mt_M_readCable) 6 = .ok (.bipush 24, 2) := by decide +kernel
theorem d_M_readCable_8 : decode (ab_bc mt_M_readCable) 8 = .ok (.if_icmp .ne 8, 3) := by decide +kernel
theorem d_M_readCable_11 : decode (ab_bc mt_M_readCable) 11 = .ok (.aload_n 0, 1) := by decide +kernel
theorem d_M_readCable_12 : decode (ab_bc mt_M_readCable) 12 = .ok (.iconst 2, 1) := by decide +kernel
theorem d_M_readCable_13 : decode (ab_bc mt_M_readCable) 13 = .ok (.invokevirtual 168, 3) := by decide +kernel
theorem d_M_readCable_16 : decode (ab_bc mt_M_readCable) 16 = .ok (.aload_n 0, 1) := by decide +kernel
theorem d_M_readCable_17 : decode (ab_bc mt_M_readCable) 17 = .ok (.getfield 150, 3) := by decide +kernel
theorem d_M_readCable_20 : decode (ab_bc mt_M_readCable) 20 = .ok (.ifCond .eq 4, 3) := by decide +kernel
theorem d_M_readCable_23 : decode (ab_bc mt_M_readCable) 23 = .ok (.return_, 1) := by decide +kernel
theorem d_M_readCable_24 : decode (ab_bc mt_M_readCable) 24 = .ok (.aload_n 0, 1) := by decide +kernel
theorem d_M_readCable_25 : decode (ab_bc mt_M_readCable) 25 = .ok (.invokevirtual 175, 3) := by decide +kernel
theorem d_M_readCable_28 : decode (ab_bc mt_M_readCable) 28 = .ok (.aload_n 0, 1) := by decide +kernel
theorem d_M_readCable_29 : decode (ab_bc mt_M_readCable) 29 = .ok (.getfield 28, 3) := by decide +kernel
theorem d_M_readCable_32 : decode (ab_bc mt_M_readCable) 32 = .ok (.iconst 0, 1) := by decide +kernel
theorem d_M_readCable_33 : decode (ab_bc mt_M_readCable) 33 = .ok (.iaload, 1) := by decide +kernel
theorem d_M_readCable_34 : decode (ab_bc mt_M_readCable) 34 = .ok (.istore_n 1, 1) := by decide +kernel
theorem d_M_readCable_35 : decode (ab_bc mt_M_readCable) 35 = .ok (.aload_n 0, 1) := by decide +kernel
theorem d_M_readCable_36 : decode (ab_bc mt_M_readCable) 36 = .ok (.getfield 28, 3) := by decide +kernel
theorem d_M_readCable_39 : decode (ab_bc mt_M_readCable) 39 = .ok (.iconst 3, 1) := by decide +kernel
theorem d_M_readCable_40 : decode (ab_bc mt_M_readCable) 40 = .ok (.iload_n 1, 1) := by decide +kernel
theorem d_M_readCable_41 : decode (ab_bc mt_M_readCable) 41 = .ok (.iadd, 1) := by decide +kernel
theorem d_M_readCable_42 : decode (ab_bc mt_M_readCable) 42 = .ok (.aload_n 0, 1) := by decide +kernel
theorem d_M_readCable_43 : decode (ab_bc mt_M_readCable) 43 = .ok (.invokevirtual 184, 3) := by decide +kernel
theorem d_M_readCable_46 : decode (ab_bc mt_M_readCable) 46 = .ok (.iastore, 1) := by decide +kernel
theorem d_M_readCable_47 : decode (ab_bc mt_M_readCable) 47 = .ok (.aload_n 0, 1) := by decide +kernel
theorem d_M_readCable_48 : decode (ab_bc mt_M_readCable) 48 = .ok (.getfield 150, 3) := by decide +kernel
theorem d_M_readCable_51 : decode (ab_bc mt_M_readCable) 51 = .ok (.ifCond .ne 7, 3) := by decide +kernel
theorem d_M_readCable_54 : decode (ab_bc mt_M_readCable) 54 = .ok (.aload_n 0, 1) := by decide +kernel
theorem d_M_readCable_55 : decode (ab_bc mt_M_readCable) 55 = .ok (.invokevirtual 175, 3) := by decide +kernel
theorem d_M_readCable_58 : decode (ab_bc mt_M_readCable) 58 = .ok (.aload_n 0, 1) := by decide +kernel
theorem d_M_readCable_59 : decode (ab_bc mt_M_readCable) 59 = .ok (.getfield 28, 3) := by decide +kernel
theorem d_M_readCable_62 : decode (ab_bc mt_M_readCable) 62 = .ok (.bipush 27, 2) := by decide +kernel
theorem d_M_readCable_64 : decode (ab_bc mt_M_readCable) 64 = .ok (.iload_n 1, 1) := by decide +kernel
theorem d_M_readCable_65 : decode (ab_bc mt_M_readCable) 65 = .ok (.iadd, 1) := by decide +kernel
theorem d_M_readCable_66 : decode (ab_bc mt_M_readCable) 66 = .ok (.aload_n 0, 1) := by decide +kernel
theorem d_M_readCable_67 : decode (ab_bc mt_M_readCable) 67 = .ok (.invokevirtual 184, 3) := by decide +kernel
theorem d_M_readCable_70 : decode (ab_bc mt_M_readCable) 70 = .ok (.iastore, 1) := by decide +kernel
theorem d_M_readCable_71 : decode (ab_bc mt_M_readCable) 71 = .ok (.aload_n 0, 1) := by decide +kernel
theorem d_M_readCable_72 : decode (ab_bc mt_M_readCable) 72 = .ok (.getfield 150, 3) := by decide +kernel
theorem d_M_readCable_75 : decode (ab_bc mt_M_readCable) 75 = .ok (.ifCond .ne 28, 3) := by decide +kernel
theorem d_M_readCable_78 : decode (ab_bc mt_M_readCable) 78 = .ok (.aload_n 0, 1) := by decide +kernel
theorem d_M_readCable_79 : decode (ab_bc mt_M_readCable) 79 = .ok (.getfield 28, 3) := by decide +kernel
theorem d_M_readCable_82 : decode (ab_bc mt_M_readCable) 82 = .ok (.bipush 27, 2) := by decide +kernel
theorem d_M_readCable_84 : decode (ab_bc mt_M_readCable) 84 = .ok (.iload_n 1, 1) := by decide +kernel
theorem d_M_readCable_85 : decode (ab_bc mt_M_readCable) 85 = .ok (.iadd, 1) := by decide +kernel
theorem d_M_readCable_86 : decode (ab_bc mt_M_readCable) 86 = .ok (.iaload, 1) := by decide +kernel
theorem d_M_readCable_87 : decode (ab_bc mt_M_readCable) 87 = .ok (.aload_n 0, 1) := by decide +kernel
theorem d_M_readCable_88 : decode (ab_bc mt_M_readCable) 88 = .ok (.getfield 28, 3) := by decide +kernel
theorem d_M_readCable_91 : decode (ab_bc mt_M_readCable) 91 = .ok (.iconst 3, 1) := by decide +kernel
theorem d_M_readCable_92 : decode (ab_bc mt_M_readCable) 92 = .ok (.iload_n 1, 1) := by decide +kernel
theorem d_M_readCable_93 : decode (ab_bc mt_M_readCable) 93 = .ok (.iadd, 1) := by decide +kernel
theorem d_M_readCable_94 : decode (ab_bc mt_M_readCable) 94 = .ok (.iaload, 1) := by decide +kernel
theorem d_M_readCable_95 : decode (ab_bc mt_M_readCable) 95 = .ok (.if_icmp .ne 8, 3) := by decide +kernel
theorem d_M_readCable_98 : decode (ab_bc mt_M_readCable) 98 = .ok (.aload_n 0, 1) := by decide +kernel
theorem d_M_readCable_99 : decode (ab_bc mt_M_readCable) 99 = .ok (.iconst 5, 1) := by decide +kernel
theorem d_M_readCable_100 : decode (ab_bc mt_M_readCable) 100 = .ok (.invokevirtual 168, 3) := by decide +kernel
theorem d_M_readCable_103 : decode (ab_bc mt_M_readCable) 103 = .ok (.aload_n 0, 1) := by decide +kernel
theorem d_M_readCable_104 : decode (ab_bc mt_M_readCable) 104 = .ok (.getfield 150, 3) := by decide +kernel
theorem d_M_readCable_107 : decode (ab_bc mt_M_readCable) 107 = .ok (.ifCond .ne 7, 3) := by decide +kernel
theorem d_M_readCable_110 : decode (ab_bc mt_M_readCable) 110 = .ok (.aload_n 0, 1) := by decide +kernel
theorem d_M_readCable_111 : decode (ab_bc mt_M_readCable) 111 = .ok (.invokevirtual 175, 3) := by decide +kernel
theorem d_M_readCable_114 : decode (ab_bc mt_M_readCable) 114 = .ok (.aload_n 0, 1) := by decide +kernel
theorem d_M_readCable_115 : decode (ab_bc mt_M_readCable) 115 = .ok (.getfield 28, 3) := by decide +kernel
theorem d_M_readCable_118 : decode (ab_bc mt_M_readCable) 118 = .ok (.bipush 51, 2) := by decide +kernel
theorem d_M_readCable_120 : decode (ab_bc mt_M_readCable) 120 = .ok (.iload_n 1, 1) := by decide +kernel
theorem d_M_readCable_121 : decode (ab_bc mt_M_readCable) 121 = .ok (.iadd, 1) := by decide +kernel
theorem d_M_readCable_122 : decode (ab_bc mt_M_readCable) 122 = .ok (.aload_n 0, 1) := by decide +kernel
theorem d_M_readCable_123 : decode (ab_bc mt_M_readCable) 123 = .ok (.iconst 1, 1) := by decide +kernel
theorem d_M_readCable_124 : decode (ab_bc mt_M_readCable) 124 = .ok (.sipush 999, 3) := by decide +kernel
theorem d_M_readCable_127 : decode (ab_bc mt_M_readCable) 127 = .ok (.invokevirtual 187, 3) := by decide +kernel
theorem d_M_readCable_130 : decode (ab_bc mt_M_readCable) 130 = .ok (.iastore, 1) := by decide +kernel
theorem d_M_readCable_131 : decode (ab_bc mt_M_readCable) 131 = .ok (.aload_n 0, 1) := by decide +kernel
theorem d_M_readCable_132 : decode (ab_bc mt_M_readCable) 132 = .ok (.getfield 28, 3) := by decide +kernel
theorem d_M_readCable_135 : decode (ab_bc mt_M_readCable) 135 = .ok (.bipush 75, 2) := by decide +kernel
theorem d_M_readCable_137 : decode (ab_bc mt_M_readCable) 137 = .ok (.iload_n 1, 1) := by decide +kernel
theorem d_M_readCable_138 : decode (ab_bc mt_M_readCable) 138 = .ok (.iadd, 1) := by decide +kernel
theorem d_M_readCable_139 : decode (ab_bc mt_M_readCable) 139 = .ok (.aload_n 0, 1) := by decide +kernel
theorem d_M_readCable_140 : decode (ab_bc mt_M_readCable) 140 = .ok (.getfield 150, 3) := by decide +kernel
theorem d_M_readCable_143 : decode (ab_bc mt_M_readCable) 143 = .ok (.ifCond .ne 20, 3) := by decide +kernel
theorem d_M_readCable_146 : decode (ab_bc mt_M_readCable) 146 = .ok (.aload_n 0, 1) := by decide +kernel
theorem d_M_readCable_147 : decode (ab_bc mt_M_readCable) 147 = .ok (.getfield 127, 3) := by decide +kernel
theorem d_M_readCable_150 : decode (ab_bc mt_M_readCable) 150 = .ok (.iconst 2, 1) := by decide +kernel
theorem d_M_readCable_151 : decode (ab_bc mt_M_readCable) 151 = .ok (.if_icmp .ne 12, 3) := by decide +kernel
theorem d_M_readCable_154 : decode (ab_bc mt_M_readCable) 154 = .ok (.aload_n 0, 1) := by decide +kernel
theorem d_M_readCable_155 : decode (ab_bc mt_M_readCable) 155 = .ok (.iconst 0, 1) := by decide +kernel
theorem d_M_readCable_156 : decode (ab_bc mt_M_readCable) 156 = .ok (.iconst 3, 1) := by decide +kernel
theorem d_M_readCable_157 : decode (ab_bc mt_M_readCable) 157 = .ok (.invokevirtual 187, 3) := by decide +kernel
theorem d_M_readCable_160 : decode (ab_bc mt_M_readCable) 160 = .ok (.goto 4, 3) := by decide +kernel
theorem d_M_readCable_163 : decode (ab_bc mt_M_readCable) 163 = .ok (.iconst 0, 1) := by decide +kernel
theorem d_M_readCable_164 : decode (ab_bc mt_M_readCable) 164 = .ok (.iastore, 1) := by decide +kernel
theorem d_M_readCable_165 : decode (ab_bc mt_M_readCable) 165 = .ok (.aload_n 0, 1) := by decide +kernel
theorem d_M_readCable_166 : decode (ab_bc mt_M_readCable) 166 = .ok (.getfield 28, 3) := by decide +kernel
theorem d_M_readCable_169 : decode (ab_bc mt_M_readCable) 169 = .ok (.iconst 1, 1) := by decide +kernel
theorem d_M_readCable_170 : decode (ab_bc mt_M_readCable) 170 = .ok (.dup2, 1) := by decide +kernel
theorem d_M_readCable_171 : decode (ab_bc mt_M_readCable) 171 = .ok (.iaload, 1) := by decide +kernel
theorem d_M_readCable_172 : decode (ab_bc mt_M_readCable) 172 = .ok (.iconst 1, 1) := by decide +kernel
theorem d_M_readCable_173 : decode (ab_bc mt_M_readCable) 173 = .ok (.iload_n 1, 1) := by decide +kernel
theorem d_M_readCable_174 : decode (ab_bc mt_M_readCable) 174 = .ok (.ishl, 1) := by decide +kernel
theorem d_M_readCable_175 : decode (ab_bc mt_M_readCable) 175 = .ok (.ior, 1) := by decide +kernel
theorem d_M_readCable_176 : decode (ab_bc mt_M_readCable) 176 = .ok (.iastore, 1) := by decide +kernel
theorem d_M_readCable_177 : decode (ab_bc mt_M_readCable) 177 = .ok (.aload_n 0, 1) := by decide +kernel
theorem d_M_readCable_178 : decode (ab_bc mt_M_readCable) 178 = .ok (.getfield 28, 3) := by decide +kernel
theorem d_M_readCable_181 : decode (ab_bc mt_M_readCable) 181 = .ok (.iconst 0, 1) := by decide +kernel
theorem d_M_readCable_182 : decode (ab_bc mt_M_readCable) 182 = .ok (.dup2, 1) := by decide +kernel
theorem d_M_readCable_183 : decode (ab_bc mt_M_readCable) 183 = .ok (.iaload, 1) := by decide +kernel
theorem d_M_readCable_184 : decode (ab_bc mt_M_readCable) 184 = .ok (.iconst 1, 1) := by decide +kernel
theorem d_M_readCable_185 : decode (ab_bc mt_M_readCable) 185 = .ok (.iadd, 1) := by decide +kernel
theorem d_M_readCable_186 : decode (ab_bc mt_M_readCable) 186 = .ok (.iastore, 1) := by decide +kernel
theorem d_M_readCable_187 : decode (ab_bc mt_M_readCable) 187 = .ok (.return_, 1) := by decide +kernel
-- CableKeeperModel.readCable()V over mx
theorem q_M_readCable_0 {w : ab_Wd} {d n nc ns : Nat} {I : Nat → Nat → Int32} {L : Nat → Nat → Int64} {res : ab_Re}  (hc : nc ≤ res.2.2.2.2.2.1) (hs : ns ≤ res.2.2.2.2.2.2)
    (h : ((¬ (I mx_reading 0) = 24 → (ab_E w (d + 1) mt_M_readCable 16 [.ref mx, .null] [] (I, L, ab_RR, n, nc, ns) res)) ∧ ((I mx_reading 0) = 24 → (∃ (I3 : Nat → Nat → Int32), ab_C w d mt_M_wrong [.ref mx, .int 2] (I, L, ab_RR, n, nc, ns) (.inl none, (I3, L, ab_RR, n, nc, ns)) ∧ ab_E w (d + 1) mt_M_readCable 16 [.ref mx, .null] [] (I3, L, ab_RR, n, nc, ns) res)))) : ab_E w (d + 1) mt_M_readCable 0 [.ref mx, .null] [] (I, L, ab_RR, n, nc, ns) res := by
  refine ab_aload_n (i := 0) d_M_readCable_0 rfl rfl ?_
  refine ab_getR (ci := 11) (k := 5) (j := mx_reading) d_M_readCable_1 v_1373 rfl (by decide) (by decide) rfl r_mx_5 ?_
  refine ab_iconst (v := 0) d_M_readCable_4 rfl ?_
  refine ab_iald d_M_readCable_5 rfl rfl (by unfold vp_in; decide) ?_
  refine ab_bipush (v := 24) d_M_readCable_6 rfl ?_
  refine ab_icmp_ne (tgt := 16) d_M_readCable_8 (by decide) (fun c1 => ?_) (fun c1 => ?_)
  · have h := h.1 c1
    exact h
  · have h := h.2 c1
    refine ab_aload_n (i := 0) d_M_readCable_11 rfl rfl ?_
    refine ab_iconst (v := 2) d_M_readCable_12 rfl ?_
    obtain ⟨I3, hC, h⟩ := h
    refine ab_callV (me2 := mt_M_wrong) (b := mx) (as := [.int 2]) (st := []) (rv := none) (M2 := (I3, L, ab_RR, n, nc, ns)) d_M_readCable_13 ce_M_wrong v_1596 v_1598 v_72 (by decide) rfl (Nat.le_of_ble_eq_true rfl) hC (Nat.le_refl _) (Nat.le_refl _) hc hs (fun j h9 => by cases h9) (fun _ _ => rfl) ?_
    show ab_E w (d + 1) mt_M_readCable 16 [.ref mx, .null] [] (I3, L, ab_RR, n, nc, ns) res
    exact h
theorem q_M_readCable_16 {w : ab_Wd} {d n nc ns : Nat} {I : Nat → Nat → Int32} {L : Nat → Nat → Int64} {res : ab_Re}  (hc : nc ≤ res.2.2.2.2.2.1) (hs : ns ≤ res.2.2.2.2.2.2)
    (h : (((I mx 15) = 0 → (∃ (I3 : Nat → Nat → Int32), ab_C w d mt_M_stepOn [.ref mx] (I, L, ab_RR, n, nc, ns) (.inl none, (I3, L, ab_RR, n, nc, ns)) ∧ ∃ (r4 : Int32) (I5 : Nat → Nat → Int32), ab_C w d mt_M_siteNow [.ref mx] (I3, L, ab_RR, n, nc, ns) (.inl (some (.int r4)), (I5, L, ab_RR, n, nc, ns)) ∧ (vp_in (3 + (I3 mx_reading 0)) 399) ∧ ((¬ (I5 mx 15) = 0 → (ab_E w (d + 1) mt_M_readCable 58 [.ref mx, .int (I3 mx_reading 0)] [] ((ab_up I5 mx_reading (3 + (I3 mx_reading 0)).toNatClampNeg r4), L, ab_RR, n, nc, ns) res)) ∧ ((I5 mx 15) = 0 → (∃ (I9 : Nat → Nat → Int32), ab_C w d mt_M_stepOn [.ref mx] ((ab_up I5 mx_reading (3 + (I3 mx_reading 0)).toNatClampNeg r4), L, ab_RR, n, nc, ns) (.inl none, (I9, L, ab_RR, n, nc, ns)) ∧ ab_E w (d + 1) mt_M_readCable 58 [.ref mx, .int (I3 mx_reading 0)] [] (I9, L, ab_RR, n, nc, ns) res))))) ∧ (¬ (I mx 15) = 0 → (res = (.inl none, (I, L, ab_RR, n, nc, ns)))))) : ab_E w (d + 1) mt_M_readCable 16 [.ref mx, .null] [] (I, L, ab_RR, n, nc, ns) res := by
  refine ab_aload_n (i := 0) d_M_readCable_16 rfl rfl ?_
  refine ab_getI (ci := 11) (k := 15) d_M_readCable_17 v_1383 rfl (by decide) (by decide) rfl ?_
  refine ab_if_eq (tgt := 24) d_M_readCable_20 (by decide) (fun c1 => ?_) (fun c1 => ?_)
  · have h := h.1 c1
    refine ab_aload_n (i := 0) d_M_readCable_24 rfl rfl ?_
    obtain ⟨I3, hC, h⟩ := h
    refine ab_callV (me2 := mt_M_stepOn) (b := mx) (as := []) (st := []) (rv := none) (M2 := (I3, L, ab_RR, n, nc, ns)) d_M_readCable_25 ce_M_stepOn v_1566 v_1568 v_67 (by decide) rfl (Nat.le_of_ble_eq_true rfl) hC (Nat.le_refl _) (Nat.le_refl _) hc hs (fun j h9 => by cases h9) (fun _ _ => rfl) ?_
    show ab_E w (d + 1) mt_M_readCable 28 [.ref mx, .null] [] (I3, L, ab_RR, n, nc, ns) res
    refine ab_aload_n (i := 0) d_M_readCable_28 rfl rfl ?_
    refine ab_getR (ci := 11) (k := 5) (j := mx_reading) d_M_readCable_29 v_1373 rfl (by decide) (by decide) rfl r_mx_5 ?_
    refine ab_iconst (v := 0) d_M_readCable_32 rfl ?_
    refine ab_iald d_M_readCable_33 rfl rfl (by unfold vp_in; decide) ?_
    refine ab_istore_n (i := 1) d_M_readCable_34 rfl (by decide) (Or.inr rfl) ?_
    refine ab_aload_n (i := 0) d_M_readCable_35 rfl rfl ?_
    refine ab_getR (ci := 11) (k := 5) (j := mx_reading) d_M_readCable_36 v_1373 rfl (by decide) (by decide) rfl r_mx_5 ?_
    refine ab_iconst (v := 3) d_M_readCable_39 rfl ?_
    refine ab_iload_n (i := 1) d_M_readCable_40 rfl rfl ?_
    refine ab_iadd d_M_readCable_41 ?_
    refine ab_aload_n (i := 0) d_M_readCable_42 rfl rfl ?_
    obtain ⟨r4, I5, hC, h⟩ := h
    refine ab_callV (me2 := mt_M_siteNow) (b := mx) (as := []) (st := [.int (3 + (I3 mx_reading 0)), .ref mx_reading]) (rv := (some (.int r4))) (M2 := (I5, L, ab_RR, n, nc, ns)) d_M_readCable_43 ce_M_siteNow v_1604 v_1606 v_74 (by decide) rfl (Nat.le_of_ble_eq_true rfl) hC (Nat.le_refl _) (Nat.le_refl _) hc hs (fun j h9 => by cases h9) (fun _ _ => rfl) ?_
    show ab_E w (d + 1) mt_M_readCable 46 [.ref mx, .int (I3 mx_reading 0)] [.int r4, .int (3 + (I3 mx_reading 0)), .ref mx_reading] (I5, L, ab_RR, n, nc, ns) res
    have g6 := h.1; have h := h.2
    refine ab_iast d_M_readCable_46 rfl rfl g6 ?_
    refine ab_aload_n (i := 0) d_M_readCable_47 rfl rfl ?_
    refine ab_getI (ci := 11) (k := 15) d_M_readCable_48 v_1383 rfl (by decide) (by decide) rfl ?_
    refine ab_if_ne (tgt := 58) d_M_readCable_51 (by decide) (fun c7 => ?_) (fun c7 => ?_)
    · have h := h.1 c7
      exact h
    · have h := h.2 c7
      refine ab_aload_n (i := 0) d_M_readCable_54 rfl rfl ?_
      obtain ⟨I9, hC, h⟩ := h
      refine ab_callV (me2 := mt_M_stepOn) (b := mx) (as := []) (st := []) (rv := none) (M2 := (I9, L, ab_RR, n, nc, ns)) d_M_readCable_55 ce_M_stepOn v_1566 v_1568 v_67 (by decide) rfl (Nat.le_of_ble_eq_true rfl) hC (Nat.le_refl _) (Nat.le_refl _) hc hs (fun j h9 => by cases h9) (fun _ _ => rfl) ?_
      show ab_E w (d + 1) mt_M_readCable 58 [.ref mx, .int (I3 mx_reading 0)] [] (I9, L, ab_RR, n, nc, ns) res
      exact h
  · have h := h.2 c1
    exact ab_vret d_M_readCable_23 rfl h
theorem q_M_readCable_58 {w : ab_Wd} {d n nc ns : Nat} {I : Nat → Nat → Int32} {L : Nat → Nat → Int64} {res : ab_Re} (v1 : Int32) (hc : nc ≤ res.2.2.2.2.2.1) (hs : ns ≤ res.2.2.2.2.2.2)
    (h : ∃ (r1 : Int32) (I2 : Nat → Nat → Int32), ab_C w d mt_M_siteNow [.ref mx] (I, L, ab_RR, n, nc, ns) (.inl (some (.int r1)), (I2, L, ab_RR, n, nc, ns)) ∧ (vp_in (27 + v1) 399) ∧ ((¬ (I2 mx 15) = 0 → (ab_E w (d + 1) mt_M_readCable 103 [.ref mx, .int v1] [] ((ab_up I2 mx_reading (27 + v1).toNatClampNeg r1), L, ab_RR, n, nc, ns) res)) ∧ ((I2 mx 15) = 0 → ((vp_in (3 + v1) 399) ∧ ((¬ ((ab_up I2 mx_reading (27 + v1).toNatClampNeg r1) mx_reading (27 + v1).toNatClampNeg) = ((ab_up I2 mx_reading (27 + v1).toNatClampNeg r1) mx_reading (3 + v1).toNatClampNeg) → (ab_E w (d + 1) mt_M_readCable 103 [.ref mx, .int v1] [] ((ab_up I2 mx_reading (27 + v1).toNatClampNeg r1), L, ab_RR, n, nc, ns) res)) ∧ (((ab_up I2 mx_reading (27 + v1).toNatClampNeg r1) mx_reading (27 + v1).toNatClampNeg) = ((ab_up I2 mx_reading (27 + v1).toNatClampNeg r1) mx_reading (3 + v1).toNatClampNeg) → (∃ (I8 : Nat → Nat → Int32), ab_C w d mt_M_wrong [.ref mx, .int 5] ((ab_up I2 mx_reading (27 + v1).toNatClampNeg r1), L, ab_RR, n, nc, ns) (.inl none, (I8, L, ab_RR, n, nc, ns)) ∧ ab_E w (d + 1) mt_M_readCable 103 [.ref mx, .int v1] [] (I8, L, ab_RR, n, nc, ns) res))))))) : ab_E w (d + 1) mt_M_readCable 58 [.ref mx, .int v1] [] (I, L, ab_RR, n, nc, ns) res := by
  refine ab_aload_n (i := 0) d_M_readCable_58 rfl rfl ?_
  refine ab_getR (ci := 11) (k := 5) (j := mx_reading) d_M_readCable_59 v_1373 rfl (by decide) (by decide) rfl r_mx_5 ?_
  refine ab_bipush (v := 27) d_M_readCable_62 rfl ?_
  refine ab_iload_n (i := 1) d_M_readCable_64 rfl rfl ?_
  refine ab_iadd d_M_readCable_65 ?_
  refine ab_aload_n (i := 0) d_M_readCable_66 rfl rfl ?_
  obtain ⟨r1, I2, hC, h⟩ := h
  refine ab_callV (me2 := mt_M_siteNow) (b := mx) (as := []) (st := [.int (27 + v1), .ref mx_reading]) (rv := (some (.int r1))) (M2 := (I2, L, ab_RR, n, nc, ns)) d_M_readCable_67 ce_M_siteNow v_1604 v_1606 v_74 (by decide) rfl (Nat.le_of_ble_eq_true rfl) hC (Nat.le_refl _) (Nat.le_refl _) hc hs (fun j h9 => by cases h9) (fun _ _ => rfl) ?_
  show ab_E w (d + 1) mt_M_readCable 70 [.ref mx, .int v1] [.int r1, .int (27 + v1), .ref mx_reading] (I2, L, ab_RR, n, nc, ns) res
  have g3 := h.1; have h := h.2
  refine ab_iast d_M_readCable_70 rfl rfl g3 ?_
  refine ab_aload_n (i := 0) d_M_readCable_71 rfl rfl ?_
  refine ab_getI (ci := 11) (k := 15) d_M_readCable_72 v_1383 rfl (by decide) (by decide) rfl ?_
  refine ab_if_ne (tgt := 103) d_M_readCable_75 (by decide) (fun c4 => ?_) (fun c4 => ?_)
  · have h := h.1 c4
    exact h
  · have h := h.2 c4
    refine ab_aload_n (i := 0) d_M_readCable_78 rfl rfl ?_
    refine ab_getR (ci := 11) (k := 5) (j := mx_reading) d_M_readCable_79 v_1373 rfl (by decide) (by decide) rfl r_mx_5 ?_
    refine ab_bipush (v := 27) d_M_readCable_82 rfl ?_
    refine ab_iload_n (i := 1) d_M_readCable_84 rfl rfl ?_
    refine ab_iadd d_M_readCable_85 ?_
    refine ab_iald d_M_readCable_86 rfl rfl g3 ?_
    refine ab_aload_n (i := 0) d_M_readCable_87 rfl rfl ?_
    refine ab_getR (ci := 11) (k := 5) (j := mx_reading) d_M_readCable_88 v_1373 rfl (by decide) (by decide) rfl r_mx_5 ?_
    refine ab_iconst (v := 3) d_M_readCable_91 rfl ?_
    refine ab_iload_n (i := 1) d_M_readCable_92 rfl rfl ?_
    refine ab_iadd d_M_readCable_93 ?_
    have g5 := h.1; have h := h.2
    refine ab_iald d_M_readCable_94 rfl rfl g5 ?_
    refine ab_icmp_ne (tgt := 103) d_M_readCable_95 (by decide) (fun c6 => ?_) (fun c6 => ?_)
    · have h := h.1 c6
      exact h
    · have h := h.2 c6
      refine ab_aload_n (i := 0) d_M_readCable_98 rfl rfl ?_
      refine ab_iconst (v := 5) d_M_readCable_99 rfl ?_
      obtain ⟨I8, hC, h⟩ := h
      refine ab_callV (me2 := mt_M_wrong) (b := mx) (as := [.int 5]) (st := []) (rv := none) (M2 := (I8, L, ab_RR, n, nc, ns)) d_M_readCable_100 ce_M_wrong v_1596 v_1598 v_72 (by decide) rfl (Nat.le_of_ble_eq_true rfl) hC (Nat.le_refl _) (Nat.le_refl _) hc hs (fun j h9 => by cases h9) (fun _ _ => rfl) ?_
      show ab_E w (d + 1) mt_M_readCable 103 [.ref mx, .int v1] [] (I8, L, ab_RR, n, nc, ns) res
      exact h
theorem q_M_readCable_103 {w : ab_Wd} {d n nc ns : Nat} {I : Nat → Nat → Int32} {L : Nat → Nat → Int64} {res : ab_Re} (v1 : Int32) (hc : nc ≤ res.2.2.2.2.2.1) (hs : ns ≤ res.2.2.2.2.2.2)
    (h : ((¬ (I mx 15) = 0 → (ab_E w (d + 1) mt_M_readCable 114 [.ref mx, .int v1] [] (I, L, ab_RR, n, nc, ns) res)) ∧ ((I mx 15) = 0 → (∃ (I3 : Nat → Nat → Int32), ab_C w d mt_M_stepOn [.ref mx] (I, L, ab_RR, n, nc, ns) (.inl none, (I3, L, ab_RR, n, nc, ns)) ∧ ab_E w (d + 1) mt_M_readCable 114 [.ref mx, .int v1] [] (I3, L, ab_RR, n, nc, ns) res)))) : ab_E w (d + 1) mt_M_readCable 103 [.ref mx, .int v1] [] (I, L, ab_RR, n, nc, ns) res := by
  refine ab_aload_n (i := 0) d_M_readCable_103 rfl rfl ?_
  refine ab_getI (ci := 11) (k := 15) d_M_readCable_104 v_1383 rfl (by decide) (by decide) rfl ?_
  refine ab_if_ne (tgt := 114) d_M_readCable_107 (by decide) (fun c1 => ?_) (fun c1 => ?_)
  · have h := h.1 c1
    exact h
  · have h := h.2 c1
    refine ab_aload_n (i := 0) d_M_readCable_110 rfl rfl ?_
    obtain ⟨I3, hC, h⟩ := h
    refine ab_callV (me2 := mt_M_stepOn) (b := mx) (as := []) (st := []) (rv := none) (M2 := (I3, L, ab_RR, n, nc, ns)) d_M_readCable_111 ce_M_stepOn v_1566 v_1568 v_67 (by decide) rfl (Nat.le_of_ble_eq_true rfl) hC (Nat.le_refl _) (Nat.le_refl _) hc hs (fun j h9 => by cases h9) (fun _ _ => rfl) ?_
    show ab_E w (d + 1) mt_M_readCable 114 [.ref mx, .int v1] [] (I3, L, ab_RR, n, nc, ns) res
    exact h
theorem q_M_readCable_114 {w : ab_Wd} {d n nc ns : Nat} {I : Nat → Nat → Int32} {L : Nat → Nat → Int64} {res : ab_Re} (v1 : Int32) (hc : nc ≤ res.2.2.2.2.2.1) (hs : ns ≤ res.2.2.2.2.2.2)
    (h : ∃ (r1 : Int32) (I2 : Nat → Nat → Int32), ab_C w d mt_M_readNumber [.ref mx, .int 1, .int 999] (I, L, ab_RR, n, nc, ns) (.inl (some (.int r1)), (I2, L, ab_RR, n, nc, ns)) ∧ (vp_in (51 + v1) 399) ∧ ((¬ (I2 mx 15) = 0 → (ab_E w (d + 1) mt_M_readCable 163 [.ref mx, .int v1] [.int (75 + v1), .ref mx_reading] ((ab_up I2 mx_reading (51 + v1).toNatClampNeg r1), L, ab_RR, n, nc, ns) res)) ∧ ((I2 mx 15) = 0 → ((¬ (I2 mx 11) = 2 → (ab_E w (d + 1) mt_M_readCable 163 [.ref mx, .int v1] [.int (75 + v1), .ref mx_reading] ((ab_up I2 mx_reading (51 + v1).toNatClampNeg r1), L, ab_RR, n, nc, ns) res)) ∧ ((I2 mx 11) = 2 → (∃ (r6 : Int32) (I7 : Nat → Nat → Int32), ab_C w d mt_M_readNumber [.ref mx, .int 0, .int 3] ((ab_up I2 mx_reading (51 + v1).toNatClampNeg r1), L, ab_RR, n, nc, ns) (.inl (some (.int r6)), (I7, L, ab_RR, n, nc, ns)) ∧ ab_E w (d + 1) mt_M_readCable 164 [.ref mx, .int v1] [.int r6, .int (75 + v1), .ref mx_reading] (I7, L, ab_RR, n, nc, ns) res)))))) : ab_E w (d + 1) mt_M_readCable 114 [.ref mx, .int v1] [] (I, L, ab_RR, n, nc, ns) res := by
  refine ab_aload_n (i := 0) d_M_readCable_114 rfl rfl ?_
  refine ab_getR (ci := 11) (k := 5) (j := mx_reading) d_M_readCable_115 v_1373 rfl (by decide) (by decide) rfl r_mx_5 ?_
  refine ab_bipush (v := 51) d_M_readCable_118 rfl ?_
  refine ab_iload_n (i := 1) d_M_readCable_120 rfl rfl ?_
  refine ab_iadd d_M_readCable_121 ?_
  refine ab_aload_n (i := 0) d_M_readCable_122 rfl rfl ?_
  refine ab_iconst (v := 1) d_M_readCable_123 rfl ?_
  refine ab_sipush (v := 999) d_M_readCable_124 rfl ?_
  obtain ⟨r1, I2, hC, h⟩ := h
  refine ab_callV (me2 := mt_M_readNumber) (b := mx) (as := [.int 1, .int 999]) (st := [.int (51 + v1), .ref mx_reading]) (rv := (some (.int r1))) (M2 := (I2, L, ab_RR, n, nc, ns)) d_M_readCable_127 ce_M_readNumber v_1616 v_1618 v_77 (by decide) rfl (Nat.le_of_ble_eq_true rfl) hC (Nat.le_refl _) (Nat.le_refl _) hc hs (fun j h9 => by cases h9) (fun _ _ => rfl) ?_
  show ab_E w (d + 1) mt_M_readCable 130 [.ref mx, .int v1] [.int r1, .int (51 + v1), .ref mx_reading] (I2, L, ab_RR, n, nc, ns) res
  have g3 := h.1; have h := h.2
  refine ab_iast d_M_readCable_130 rfl rfl g3 ?_
  refine ab_aload_n (i := 0) d_M_readCable_131 rfl rfl ?_
  refine ab_getR (ci := 11) (k := 5) (j := mx_reading) d_M_readCable_132 v_1373 rfl (by decide) (by decide) rfl r_mx_5 ?_
  refine ab_bipush (v := 75) d_M_readCable_135 rfl ?_
  refine ab_iload_n (i := 1) d_M_readCable_137 rfl rfl ?_
  refine ab_iadd d_M_readCable_138 ?_
  refine ab_aload_n (i := 0) d_M_readCable_139 rfl rfl ?_
  refine ab_getI (ci := 11) (k := 15) d_M_readCable_140 v_1383 rfl (by decide) (by decide) rfl ?_
  refine ab_if_ne (tgt := 163) d_M_readCable_143 (by decide) (fun c4 => ?_) (fun c4 => ?_)
  · have h := h.1 c4
    exact h
  · have h := h.2 c4
    refine ab_aload_n (i := 0) d_M_readCable_146 rfl rfl ?_
    refine ab_getI (ci := 11) (k := 11) d_M_readCable_147 v_1379 rfl (by decide) (by decide) rfl ?_
    refine ab_iconst (v := 2) d_M_readCable_150 rfl ?_
    refine ab_icmp_ne (tgt := 163) d_M_readCable_151 (by decide) (fun c5 => ?_) (fun c5 => ?_)
    · have h := h.1 c5
      exact h
    · have h := h.2 c5
      refine ab_aload_n (i := 0) d_M_readCable_154 rfl rfl ?_
      refine ab_iconst (v := 0) d_M_readCable_155 rfl ?_
      refine ab_iconst (v := 3) d_M_readCable_156 rfl ?_
      obtain ⟨r6, I7, hC, h⟩ := h
      refine ab_callV (me2 := mt_M_readNumber) (b := mx) (as := [.int 0, .int 3]) (st := [.int (75 + v1), .ref mx_reading]) (rv := (some (.int r6))) (M2 := (I7, L, ab_RR, n, nc, ns)) d_M_readCable_157 ce_M_readNumber v_1616 v_1618 v_77 (by decide) rfl (Nat.le_of_ble_eq_true rfl) hC (Nat.le_refl _) (Nat.le_refl _) hc hs (fun j h9 => by cases h9) (fun _ _ => rfl) ?_
      show ab_E w (d + 1) mt_M_readCable 160 [.ref mx, .int v1] [.int r6, .int (75 + v1), .ref mx_reading] (I7, L, ab_RR, n, nc, ns) res
      refine ab_goto (tgt := 164) d_M_readCable_160 (by decide) ?_
      exact h
theorem q_M_readCable_163 {w : ab_Wd} {d n nc ns : Nat} {I : Nat → Nat → Int32} {L : Nat → Nat → Int64} {res : ab_Re} (v1 : Int32) (s1 : Int32) (hc : nc ≤ res.2.2.2.2.2.1) (hs : ns ≤ res.2.2.2.2.2.2)
    (h : ab_E w (d + 1) mt_M_readCable 164 [.ref mx, .int v1] [.int 0, .int s1, .ref mx_reading] (I, L, ab_RR, n, nc, ns) res) : ab_E w (d + 1) mt_M_readCable 163 [.ref mx, .int v1] [.int s1, .ref mx_reading] (I, L, ab_RR, n, nc, ns) res := by
  refine ab_iconst (v := 0) d_M_readCable_163 rfl ?_
  exact h
theorem q_M_readCable_164 {w : ab_Wd} {d n nc ns : Nat} {I : Nat → Nat → Int32} {L : Nat → Nat → Int64} {res : ab_Re} (v1 : Int32) (s1 : Int32) (s2 : Int32) (hc : nc ≤ res.2.2.2.2.2.1) (hs : ns ≤ res.2.2.2.2.2.2)
    (h : (vp_in s1 399) ∧ res = (.inl none, ((ab_up (ab_up (ab_up I mx_reading s1.toNatClampNeg s2) mx_reading 1 (((ab_up I mx_reading s1.toNatClampNeg s2) mx_reading 1) ||| ((1 : Int32) <<< (v1 &&& 31)))) mx_reading 0 (((ab_up (ab_up I mx_reading s1.toNatClampNeg s2) mx_reading 1 (((ab_up I mx_reading s1.toNatClampNeg s2) mx_reading 1) ||| ((1 : Int32) <<< (v1 &&& 31)))) mx_reading 0) + 1)), L, ab_RR, n, nc, ns))) : ab_E w (d + 1) mt_M_readCable 164 [.ref mx, .int v1] [.int s2, .int s1, .ref mx_reading] (I, L, ab_RR, n, nc, ns) res := by
  have g1 := h.1; have h := h.2
  refine ab_iast d_M_readCable_164 rfl rfl g1 ?_
  refine ab_aload_n (i := 0) d_M_readCable_165 rfl rfl ?_
  refine ab_getR (ci := 11) (k := 5) (j := mx_reading) d_M_readCable_166 v_1373 rfl (by decide) (by decide) rfl r_mx_5 ?_
  refine ab_iconst (v := 1) d_M_readCable_169 rfl ?_
  refine ab_dup2 d_M_readCable_170 ?_
  refine ab_iald d_M_readCable_171 rfl rfl (by unfold vp_in; decide) ?_
  refine ab_iconst (v := 1) d_M_readCable_172 rfl ?_
  refine ab_iload_n (i := 1) d_M_readCable_173 rfl rfl ?_
  refine ab_ishl d_M_readCable_174 ?_
  refine ab_ior d_M_readCable_175 ?_
  refine ab_iast d_M_readCable_176 rfl rfl (by unfold vp_in; decide) ?_
  refine ab_aload_n (i := 0) d_M_readCable_177 rfl rfl ?_
  refine ab_getR (ci := 11) (k := 5) (j := mx_reading) d_M_readCable_178 v_1373 rfl (by decide) (by decide) rfl r_mx_5 ?_
  refine ab_iconst (v := 0) d_M_readCable_181 rfl ?_
  refine ab_dup2 d_M_readCable_182 ?_
  refine ab_iald d_M_readCable_183 rfl rfl (by unfold vp_in; decide) ?_
  refine ab_iconst (v := 1) d_M_readCable_184 rfl ?_
  refine ab_iadd d_M_readCable_185 ?_
  refine ab_iast d_M_readCable_186 rfl rfl (by unfold vp_in; decide) ?_
  exact ab_vret d_M_readCable_187 rfl h
