theorem d_M_nextBest_0 : decode (ab_bc mt_M_nextBest) 0 = .ok (.aload_n 0, 1) := by decide +kernel
theorem d_M_nextBest_1 : decode (ab_bc mt_M_nextBest) 1 = .ok (.invokevirtual 251, 3) := by decide +kernel
theorem d_M_nextBest_4 : decode (ab_bc mt_M_nextBest) 4 = .ok (.istore_n 1, 1) := by decide +kernel
theorem d_M_nextBest_5 : decode (ab_bc mt_M_nextBest) 5 = .ok (.aload_n 0, 1) := by decide +kernel
theorem d_M_nextBest_6 : decode (ab_bc mt_M_nextBest) 6 = .ok (.getfield 231, 3) := by decide +kernel
theorem d_M_nextBest_9 : decode (ab_bc mt_M_nextBest) 9 = .ok (.istore_n 2, 1) := by decide +kernel
theorem d_M_nextBest_10 : decode (ab_bc mt_M_nextBest) 10 = .ok (.iconst (-1), 1) := by decide +kernel
theorem d_M_nextBest_11 : decode (ab_bc mt_M_nextBest) 11 = .ok (.istore_n 3, 1) := by decide +kernel
theorem d_M_nextBest_12 : decode (ab_bc mt_M_nextBest) 12 = .ok (.iconst 0, 1) := by decide +kernel
theorem d_M_nextBest_13 : decode (ab_bc mt_M_nextBest) 13 = .ok (.istore 4, 2) := by decide +kernel
theorem d_M_nextBest_15 : decode (ab_bc mt_M_nextBest) 15 = .ok (.iload 4, 2) := by decide +kernel
theorem d_M_nextBest_17 : decode (ab_bc mt_M_nextBest) 17 = .ok (.aload_n 0, 1) := by decide +kernel
theorem d_M_nextBest_18 : decode (ab_bc mt_M_nextBest) 18 = .ok (.invokevirtual 234, 3) := by decide +kernel
theorem d_M_nextBest_21 : decode (ab_bc mt_M_nextBest) 21 = .ok (.if_icmp .ge 75, 3) := by decide +kernel
theorem d_M_nextBest_24 : decode (ab_bc mt_M_nextBest) 24 = .ok (.aload_n 0, 1) := by decide +kernel
theorem d_M_nextBest_25 : decode (ab_bc mt_M_nextBest) 25 = .ok (.iload 4, 2) := by decide +kernel
theorem d_M_nextBest_27 : decode (ab_bc mt_M_nextBest) 27 = .ok (.invokevirtual 262, 3) := by decide +kernel
theorem d_M_nextBest_30 : decode (ab_bc mt_M_nextBest) 30 = .ok (.ifCond .eq 60, 3) := by decide +kernel
theorem d_M_nextBest_33 : decode (ab_bc mt_M_nextBest) 33 = .ok (.iload_n 1, 1) := by decide +kernel
theorem d_M_nextBest_34 : decode (ab_bc mt_M_nextBest) 34 = .ok (.iload 4, 2) := by decide +kernel
theorem d_M_nextBest_36 : decode (ab_bc mt_M_nextBest) 36 = .ok (.invokestatic 237, 3) := by decide +kernel
theorem d_M_nextBest_39 : decode (ab_bc mt_M_nextBest) 39 = .ok (.ifCond .eq 6, 3) := by decide +kernel
theorem d_M_nextBest_42 : decode (ab_bc mt_M_nextBest) 42 = .ok (.goto 48, 3) := by decide +kernel
theorem d_M_nextBest_45 : decode (ab_bc mt_M_nextBest) 45 = .ok (.aload_n 0, 1) := by decide +kernel
theorem d_M_nextBest_46 : decode (ab_bc mt_M_nextBest) 46 = .ok (.iload_n 1, 1) := by decide +kernel
theorem d_M_nextBest_47 : decode (ab_bc mt_M_nextBest) 47 = .ok (.iload 4, 2) := by decide +kernel
theorem d_M_nextBest_49 : decode (ab_bc mt_M_nextBest) 49 = .ok (.invokevirtual 282, 3) := by decide +kernel
theorem d_M_nextBest_52 : decode (ab_bc mt_M_nextBest) 52 = .ok (.istore 5, 2) := by decide +kernel
theorem d_M_nextBest_54 : decode (ab_bc mt_M_nextBest) 54 = .ok (.iload_n 2, 1) := by decide +kernel
theorem d_M_nextBest_55 : decode (ab_bc mt_M_nextBest) 55 = .ok (.aload_n 0, 1) := by decide +kernel
theorem d_M_nextBest_56 : decode (ab_bc mt_M_nextBest) 56 = .ok (.iload 4, 2) := by decide +kernel
theorem d_M_nextBest_58 : decode (ab_bc mt_M_nextBest) 58 = .ok (.invokevirtual 222, 3) := by decide +kernel
theorem d_M_nextBest_61 : decode (ab_bc mt_M_nextBest) 61 = .ok (.iadd, 1) := by decide +kernel
theorem d_M_nextBest_62 : decode (ab_bc mt_M_nextBest) 62 = .ok (.aload_n 0, 1) := by decide +kernel
theorem d_M_nextBest_63 : decode (ab_bc mt_M_nextBest) 63 = .ok (.aload_n 0, 1) := by decide +kernel
theorem d_M_nextBest_64 : decode (ab_bc mt_M_nextBest) 64 = .ok (.invokevirtual 285, 3) := by decide +kernel
theorem d_M_nextBest_67 : decode (ab_bc mt_M_nextBest) 67 = .ok (.invokevirtual 222, 3) := by decide +kernel
theorem d_M_nextBest_70 : decode (ab_bc mt_M_nextBest) 70 = .ok (.isub, 1) := by decide +kernel
theorem d_M_nextBest_71 : decode (ab_bc mt_M_nextBest) 71 = .ok (.istore 6, 2) := by decide +kernel
theorem d_M_nextBest_73 : decode (ab_bc mt_M_nextBest) 73 = .ok (.iload_n 3, 1) := by decide +kernel
theorem d_M_nextBest_74 : decode (ab_bc mt_M_nextBest) 74 = .ok (.iconst (-1), 1) := by decide +kernel
theorem d_M_nextBest_75 : decode (ab_bc mt_M_nextBest) 75 = .ok (.if_icmp .ne 8, 3) := by decide +kernel
theorem d_M_nextBest_78 : decode (ab_bc mt_M_nextBest) 78 = .ok (.iload 6, 2) := by decide +kernel
theorem d_M_nextBest_80 : decode (ab_bc mt_M_nextBest) 80 = .ok (.goto 9, 3) := by decide +kernel
theorem d_M_nextBest_83 : decode (ab_bc mt_M_nextBest) 83 = .ok (.iload_n 3, 1) := by decide +kernel
theorem d_M_nextBest_84 : decode (ab_bc mt_M_nextBest) 84 = .ok (.iload 6, 2) := by decide +kernel
theorem d_M_nextBest_86 : decode (ab_bc mt_M_nextBest) 86 = .ok (.invokestatic 141, 3) := by decide +kernel
theorem d_M_nextBest_89 : decode (ab_bc mt_M_nextBest) 89 = .ok (.istore_n 3, 1) := by decide +kernel
theorem d_M_nextBest_90 : decode (ab_bc mt_M_nextBest) 90 = .ok (.iinc 4 1, 3) := by decide +kernel
theorem d_M_nextBest_93 : decode (ab_bc mt_M_nextBest) 93 = .ok (.goto (-78), 3) := by decide +kernel
theorem d_M_nextBest_96 : decode (ab_bc mt_M_nextBest) 96 = .ok (.iload_n 3, 1) := by decide +kernel
theorem d_M_nextBest_97 : decode (ab_bc mt_M_nextBest) 97 = .ok (.ireturn, 1) := by decide +kernel
-- CableKeeperModel.nextBest()I over mx
theorem q_M_nextBest_0 {w : ab_Wd} {d n nc ns : Nat} {I : Nat → Nat → Int32} {L : Nat → Nat → Int64} {res : ab_Re}  (hc : nc ≤ res.2.2.2.2.2.1) (hs : ns ≤ res.2.2.2.2.2.2)
    (h : ∃ (r1 : Int32) (I2 : Nat → Nat → Int32), ab_C w d mt_M_netNow [.ref mx] (I, L, ab_RR, n, nc, ns) (.inl (some (.int r1)), (I2, L, ab_RR, n, nc, ns)) ∧ ab_E w (d + 1) mt_M_nextBest 15 [.ref mx, .int r1, .int (I2 mx 22), .int (-1), .int 0, .null, .null] [] (I2, L, ab_RR, n, nc, ns) res) : ab_E w (d + 1) mt_M_nextBest 0 [.ref mx, .null, .null, .null, .null, .null, .null] [] (I, L, ab_RR, n, nc, ns) res := by
  refine ab_aload_n (i := 0) d_M_nextBest_0 rfl rfl ?_
  obtain ⟨r1, I2, hC, h⟩ := h
  refine ab_callV (me2 := mt_M_netNow) (b := mx) (as := []) (st := []) (rv := (some (.int r1))) (M2 := (I2, L, ab_RR, n, nc, ns)) d_M_nextBest_1 ce_M_netNow v_1639 v_1641 v_80 (by decide) rfl (Nat.le_of_ble_eq_true rfl) hC (Nat.le_refl _) (Nat.le_refl _) hc hs (fun j h9 => by cases h9) (fun _ _ => rfl) ?_
  show ab_E w (d + 1) mt_M_nextBest 4 [.ref mx, .null, .null, .null, .null, .null, .null] [.int r1] (I2, L, ab_RR, n, nc, ns) res
  refine ab_istore_n (i := 1) d_M_nextBest_4 rfl (by decide) (Or.inr rfl) ?_
  refine ab_aload_n (i := 0) d_M_nextBest_5 rfl rfl ?_
  refine ab_getI (ci := 11) (k := 22) d_M_nextBest_6 v_1390 rfl (by decide) (by decide) rfl ?_
  refine ab_istore_n (i := 2) d_M_nextBest_9 rfl (by decide) (Or.inr rfl) ?_
  refine ab_iconst (v := (-1)) d_M_nextBest_10 rfl ?_
  refine ab_istore_n (i := 3) d_M_nextBest_11 rfl (by decide) (Or.inr rfl) ?_
  refine ab_iconst (v := 0) d_M_nextBest_12 rfl ?_
  refine ab_istore (i := 4) d_M_nextBest_13 (by decide) (Or.inr rfl) ?_
  exact h
theorem q_M_nextBest_15 {w : ab_Wd} {d n nc ns : Nat} {I : Nat → Nat → Int32} {L : Nat → Nat → Int64} {res : ab_Re} (v1 : Int32) (v2 : Int32) (v3 : Int32) (v4 : Int32) (hc : nc ≤ res.2.2.2.2.2.1) (hs : ns ≤ res.2.2.2.2.2.2)
    (h : ∃ (r1 : Int32), ab_C w d mt_M_many [.ref mx] (I, L, ab_RR, n, nc, ns) (.inl (some (.int r1)), (I, L, ab_RR, n, nc, ns)) ∧ ((r1 ≤ v4 → (res = (.inl (some (.int v3)), (I, L, ab_RR, n, nc, ns)))) ∧ (¬ r1 ≤ v4 → (∃ (r3 : Int32), ab_C w d mt_M_isSound [.ref mx, .int v4] (I, L, ab_RR, n, nc, ns) (.inl (some (.int r3)), (I, L, ab_RR, n, nc, ns)) ∧ ((r3 = 0 → (ab_E w (d + 1) mt_M_nextBest 90 [.ref mx, .int v1, .int v2, .int v3, .int v4, .null, .null] [] (I, L, ab_RR, n, nc, ns) res)) ∧ (¬ r3 = 0 → (∃ (r5 : Int32), ab_C w d mt_M_has [.int v1, .int v4] (I, L, ab_RR, n, nc, ns) (.inl (some (.int r5)), (I, L, ab_RR, n, nc, ns)) ∧ ((r5 = 0 → (∃ (r7 : Int32) (I8 : Nat → Nat → Int32), ab_C w d mt_M_tellRing [.ref mx, .int v1, .int v4] (I, L, ab_RR, n, nc, ns) (.inl (some (.int r7)), (I8, L, ab_RR, n, nc, ns)) ∧ ∃ (r9 : Int32), ab_C w d mt_M_priceOf [.ref mx, .int v4] (I8, L, ab_RR, n, nc, ns) (.inl (some (.int r9)), (I8, L, ab_RR, n, nc, ns)) ∧ ∃ (r10 : Int32), ab_C w d mt_M_dearestOnWay [.ref mx] (I8, L, ab_RR, n, nc, ns) (.inl (some (.int r10)), (I8, L, ab_RR, n, nc, ns)) ∧ ∃ (r11 : Int32), ab_C w d mt_M_priceOf [.ref mx, .int r10] (I8, L, ab_RR, n, nc, ns) (.inl (some (.int r11)), (I8, L, ab_RR, n, nc, ns)) ∧ ((¬ v3 = (-1) → (ab_E w (d + 1) mt_M_nextBest 89 [.ref mx, .int v1, .int v2, .int v3, .int v4, .int r7, .int ((v2 + r9) - r11)] [.int (ab_min32 v3 ((v2 + r9) - r11))] (I8, L, ab_RR, n, nc, ns) res)) ∧ (v3 = (-1) → (ab_E w (d + 1) mt_M_nextBest 89 [.ref mx, .int v1, .int v2, .int v3, .int v4, .int r7, .int ((v2 + r9) - r11)] [.int ((v2 + r9) - r11)] (I8, L, ab_RR, n, nc, ns) res))))) ∧ (¬ r5 = 0 → (ab_E w (d + 1) mt_M_nextBest 90 [.ref mx, .int v1, .int v2, .int v3, .int v4, .null, .null] [] (I, L, ab_RR, n, nc, ns) res)))))))))) : ab_E w (d + 1) mt_M_nextBest 15 [.ref mx, .int v1, .int v2, .int v3, .int v4, .null, .null] [] (I, L, ab_RR, n, nc, ns) res := by
  refine ab_iload (i := 4) d_M_nextBest_15 rfl ?_
  refine ab_aload_n (i := 0) d_M_nextBest_17 rfl rfl ?_
  obtain ⟨r1, hC, h⟩ := h
  refine ab_callV (me2 := mt_M_many) (b := mx) (as := []) (st := [.int v4]) (rv := (some (.int r1))) (M2 := (I, L, ab_RR, n, nc, ns)) d_M_nextBest_18 ce_M_many v_1635 v_1637 v_79 (by decide) rfl (Nat.le_of_ble_eq_true rfl) hC (Nat.le_refl _) (Nat.le_refl _) hc hs (fun j h9 => by cases h9) (fun _ _ => rfl) ?_
  show ab_E w (d + 1) mt_M_nextBest 21 [.ref mx, .int v1, .int v2, .int v3, .int v4, .null, .null] [.int r1, .int v4] (I, L, ab_RR, n, nc, ns) res
  refine ab_icmp_ge (tgt := 96) d_M_nextBest_21 (by decide) (fun c2 => ?_) (fun c2 => ?_)
  · have h := h.1 c2
    refine ab_iload_n (i := 3) d_M_nextBest_96 rfl rfl ?_
    exact ab_iret (ty := .int) d_M_nextBest_97 rfl rfl h
  · have h := h.2 c2
    refine ab_aload_n (i := 0) d_M_nextBest_24 rfl rfl ?_
    refine ab_iload (i := 4) d_M_nextBest_25 rfl ?_
    obtain ⟨r3, hC, h⟩ := h
    refine ab_callV (me2 := mt_M_isSound) (b := mx) (as := [.int v4]) (st := []) (rv := (some (.int r3))) (M2 := (I, L, ab_RR, n, nc, ns)) d_M_nextBest_27 ce_M_isSound v_1679 v_1681 v_89 (by decide) rfl (Nat.le_of_ble_eq_true rfl) hC (Nat.le_refl _) (Nat.le_refl _) hc hs (fun j h9 => by cases h9) (fun _ _ => rfl) ?_
    show ab_E w (d + 1) mt_M_nextBest 30 [.ref mx, .int v1, .int v2, .int v3, .int v4, .null, .null] [.int r3] (I, L, ab_RR, n, nc, ns) res
    refine ab_if_eq (tgt := 90) d_M_nextBest_30 (by decide) (fun c4 => ?_) (fun c4 => ?_)
    · have h := h.1 c4
      exact h
    · have h := h.2 c4
      refine ab_iload_n (i := 1) d_M_nextBest_33 rfl rfl ?_
      refine ab_iload (i := 4) d_M_nextBest_34 rfl ?_
      obtain ⟨r5, hC, h⟩ := h
      refine ab_callS (me2 := mt_M_has) (as := [.int v1, .int v4]) (st := []) (rv := (some (.int r5))) (M2 := (I, L, ab_RR, n, nc, ns)) d_M_nextBest_36 ce_M_has ⟨v_1648, Or.inl v_1647⟩ (Nat.le_of_ble_eq_true rfl) hC (Nat.le_refl _) (Nat.le_refl _) hc hs (fun j h9 => by cases h9) (fun _ _ => rfl) ?_
      show ab_E w (d + 1) mt_M_nextBest 39 [.ref mx, .int v1, .int v2, .int v3, .int v4, .null, .null] [.int r5] (I, L, ab_RR, n, nc, ns) res
      refine ab_if_eq (tgt := 45) d_M_nextBest_39 (by decide) (fun c6 => ?_) (fun c6 => ?_)
      · have h := h.1 c6
        refine ab_aload_n (i := 0) d_M_nextBest_45 rfl rfl ?_
        refine ab_iload_n (i := 1) d_M_nextBest_46 rfl rfl ?_
        refine ab_iload (i := 4) d_M_nextBest_47 rfl ?_
        obtain ⟨r7, I8, hC, h⟩ := h
        refine ab_callV (me2 := mt_M_tellRing) (b := mx) (as := [.int v1, .int v4]) (st := []) (rv := (some (.int r7))) (M2 := (I8, L, ab_RR, n, nc, ns)) d_M_nextBest_49 ce_M_tellRing v_1683 v_1685 v_90 (by decide) rfl (Nat.le_of_ble_eq_true rfl) hC (Nat.le_refl _) (Nat.le_refl _) hc hs (fun j h9 => by cases h9) (fun _ _ => rfl) ?_
        show ab_E w (d + 1) mt_M_nextBest 52 [.ref mx, .int v1, .int v2, .int v3, .int v4, .null, .null] [.int r7] (I8, L, ab_RR, n, nc, ns) res
        refine ab_istore (i := 5) d_M_nextBest_52 (by decide) (Or.inr rfl) ?_
        refine ab_iload_n (i := 2) d_M_nextBest_54 rfl rfl ?_
        refine ab_aload_n (i := 0) d_M_nextBest_55 rfl rfl ?_
        refine ab_iload (i := 4) d_M_nextBest_56 rfl ?_
        obtain ⟨r9, hC, h⟩ := h
        refine ab_callV (me2 := mt_M_priceOf) (b := mx) (as := [.int v4]) (st := [.int v2]) (rv := (some (.int r9))) (M2 := (I8, L, ab_RR, n, nc, ns)) d_M_nextBest_58 ce_M_priceOf v_1654 v_1656 v_83 (by decide) rfl (Nat.le_of_ble_eq_true rfl) hC (Nat.le_refl _) (Nat.le_refl _) hc hs (fun j h9 => by cases h9) (fun _ _ => rfl) ?_
        show ab_E w (d + 1) mt_M_nextBest 61 [.ref mx, .int v1, .int v2, .int v3, .int v4, .int r7, .null] [.int r9, .int v2] (I8, L, ab_RR, n, nc, ns) res
        refine ab_iadd d_M_nextBest_61 ?_
        refine ab_aload_n (i := 0) d_M_nextBest_62 rfl rfl ?_
        refine ab_aload_n (i := 0) d_M_nextBest_63 rfl rfl ?_
        obtain ⟨r10, hC, h⟩ := h
        refine ab_callV (me2 := mt_M_dearestOnWay) (b := mx) (as := []) (st := [.ref mx, .int (v2 + r9)]) (rv := (some (.int r10))) (M2 := (I8, L, ab_RR, n, nc, ns)) d_M_nextBest_64 ce_M_dearestOnWay v_1695 v_1697 v_93 (by decide) rfl (Nat.le_of_ble_eq_true rfl) hC (Nat.le_refl _) (Nat.le_refl _) hc hs (fun j h9 => by cases h9) (fun _ _ => rfl) ?_
        show ab_E w (d + 1) mt_M_nextBest 67 [.ref mx, .int v1, .int v2, .int v3, .int v4, .int r7, .null] [.int r10, .ref mx, .int (v2 + r9)] (I8, L, ab_RR, n, nc, ns) res
        obtain ⟨r11, hC, h⟩ := h
        refine ab_callV (me2 := mt_M_priceOf) (b := mx) (as := [.int r10]) (st := [.int (v2 + r9)]) (rv := (some (.int r11))) (M2 := (I8, L, ab_RR, n, nc, ns)) d_M_nextBest_67 ce_M_priceOf v_1654 v_1656 v_83 (by decide) rfl (Nat.le_of_ble_eq_true rfl) hC (Nat.le_refl _) (Nat.le_refl _) hc hs (fun j h9 => by cases h9) (fun _ _ => rfl) ?_
        show ab_E w (d + 1) mt_M_nextBest 70 [.ref mx, .int v1, .int v2, .int v3, .int v4, .int r7, .null] [.int r11, .int (v2 + r9)] (I8, L, ab_RR, n, nc, ns) res
        refine ab_isub d_M_nextBest_70 ?_
        refine ab_istore (i := 6) d_M_nextBest_71 (by decide) (Or.inr rfl) ?_
        refine ab_iload_n (i := 3) d_M_nextBest_73 rfl rfl ?_
        refine ab_iconst (v := (-1)) d_M_nextBest_74 rfl ?_
        refine ab_icmp_ne (tgt := 83) d_M_nextBest_75 (by decide) (fun c12 => ?_) (fun c12 => ?_)
        · have h := h.1 c12
          refine ab_iload_n (i := 3) d_M_nextBest_83 rfl rfl ?_
          refine ab_iload (i := 6) d_M_nextBest_84 rfl ?_
          refine ab_min d_M_nextBest_86 v_1581 v_448 v_150 v_449 (Nat.succ_le_succ (Nat.zero_le _)) (Nat.le_of_ble_eq_true rfl) hc hs ?_
          exact h
        · have h := h.2 c12
          refine ab_iload (i := 6) d_M_nextBest_78 rfl ?_
          refine ab_goto (tgt := 89) d_M_nextBest_80 (by decide) ?_
          exact h
      · have h := h.2 c6
        refine ab_goto (tgt := 90) d_M_nextBest_42 (by decide) ?_
        exact h
theorem q_M_nextBest_89 {w : ab_Wd} {d n nc ns : Nat} {I : Nat → Nat → Int32} {L : Nat → Nat → Int64} {res : ab_Re} (v1 : Int32) (v2 : Int32) (v3 : Int32) (v4 : Int32) (v5 : Int32) (v6 : Int32) (s0 : Int32) (hc : nc ≤ res.2.2.2.2.2.1) (hs : ns ≤ res.2.2.2.2.2.2)
    (h : ab_E w (d + 1) mt_M_nextBest 90 [.ref mx, .int v1, .int v2, .int s0, .int v4, .null, .null] [] (I, L, ab_RR, n, nc, ns) res) : ab_E w (d + 1) mt_M_nextBest 89 [.ref mx, .int v1, .int v2, .int v3, .int v4, .int v5, .int v6] [.int s0] (I, L, ab_RR, n, nc, ns) res := by
  refine ab_istore_n (i := 3) d_M_nextBest_89 rfl (by decide) (Or.inr rfl) ?_
  refine ab_drop 5 ?_
  refine ab_drop 6 ?_
  exact h
theorem q_M_nextBest_90 {w : ab_Wd} {d n nc ns : Nat} {I : Nat → Nat → Int32} {L : Nat → Nat → Int64} {res : ab_Re} (v1 : Int32) (v2 : Int32) (v3 : Int32) (v4 : Int32) (hc : nc ≤ res.2.2.2.2.2.1) (hs : ns ≤ res.2.2.2.2.2.2)
    (h : ab_E w (d + 1) mt_M_nextBest 15 [.ref mx, .int v1, .int v2, .int v3, .int (v4 + 1), .null, .null] [] (I, L, ab_RR, n, nc, ns) res) : ab_E w (d + 1) mt_M_nextBest 90 [.ref mx, .int v1, .int v2, .int v3, .int v4, .null, .null] [] (I, L, ab_RR, n, nc, ns) res := by
  refine ab_iinc (i := 4) (v := (v4 + 1)) d_M_nextBest_90 rfl rfl (by decide) (Or.inr rfl) ?_
  refine ab_goto (tgt := 15) d_M_nextBest_93 (by decide) ?_
  exact h
theorem d_M_endsAt_0 : decode (ab_bc mt_M_endsAt) 0 = .ok (.iconst 0, 1) := by decide +kernel
theorem d_M_endsAt_1 : decode (ab_bc mt_M_endsAt) 1 = .ok (.istore_n 3, 1) := by decide +kernel
theorem d_M_endsAt_2 : decode (ab_bc mt_M_endsAt) 2 = .ok (.iconst 0, 1) := by decide +kernel
theorem d_M_endsAt_3 : decode (ab_bc mt_M_endsAt) 3 = .ok (.istore 4, 2) := by decide +kernel
theorem d_M_endsAt_5 : decode (ab_bc mt_M_endsAt) 5 = .ok (.iload 4, 2) := by decide +kernel
theorem d_M_endsAt_7 : decode (ab_bc mt_M_endsAt) 7 = .ok (.aload_n 0, 1) := by decide +kernel
theorem d_M_endsAt_8 : decode (ab_bc mt_M_endsAt) 8 = .ok (.invokevirtual 234, 3) := by decide +kernel
theorem d_M_endsAt_11 : decode (ab_bc mt_M_endsAt) 11 = .ok (.if_icmp .ge 37, 3) := by decide +kernel
theorem d_M_endsAt_14 : decode (ab_bc mt_M_endsAt) 14 = .ok (.iload_n 3, 1) := by decide +kernel
theorem d_M_endsAt_15 : decode (ab_bc mt_M_endsAt) 15 = .ok (.iload_n 1, 1) := by decide +kernel
theorem d_M_endsAt_16 : decode (ab_bc mt_M_endsAt) 16 = .ok (.iload 4, 2) := by decide +kernel
theorem d_M_endsAt_18 : decode (ab_bc mt_M_endsAt) 18 = .ok (.invokestatic 237, 3) := by decide +kernel
theorem d_M_endsAt_21 : decode (ab_bc mt_M_endsAt) 21 = .ok (.ifCond .eq 18, 3) := by decide +kernel
theorem d_M_endsAt_24 : decode (ab_bc mt_M_endsAt) 24 = .ok (.aload_n 0, 1) := by decide +kernel
theorem d_M_endsAt_25 : decode (ab_bc mt_M_endsAt) 25 = .ok (.iload 4, 2) := by decide +kernel
theorem d_M_endsAt_27 : decode (ab_bc mt_M_endsAt) 27 = .ok (.iload_n 2, 1) := by decide +kernel
theorem d_M_endsAt_28 : decode (ab_bc mt_M_endsAt) 28 = .ok (.invokevirtual 269, 3) := by decide +kernel
theorem d_M_endsAt_31 : decode (ab_bc mt_M_endsAt) 31 = .ok (.iconst (-1), 1) := by decide +kernel
theorem d_M_endsAt_32 : decode (ab_bc mt_M_endsAt) 32 = .ok (.if_icmp .eq 7, 3) := by decide +kernel
theorem d_M_endsAt_35 : decode (ab_bc mt_M_endsAt) 35 = .ok (.iconst 1, 1) := by decide +kernel
theorem d_M_endsAt_36 : decode (ab_bc mt_M_endsAt) 36 = .ok (.goto 4, 3) := by decide +kernel
theorem d_M_endsAt_39 : decode (ab_bc mt_M_endsAt) 39 = .ok (.iconst 0, 1) := by decide +kernel
theorem d_M_endsAt_40 : decode (ab_bc mt_M_endsAt) 40 = .ok (.iadd, 1) := by decide +kernel
theorem d_M_endsAt_41 : decode (ab_bc mt_M_endsAt) 41 = .ok (.istore_n 3, 1) := by decide +kernel
theorem d_M_endsAt_42 : decode (ab_bc mt_M_endsAt) 42 = .ok (.iinc 4 1, 3) := by decide +kernel
theorem d_M_endsAt_45 : decode (ab_bc mt_M_endsAt) 45 = .ok (.goto (-40), 3) := by decide +kernel
theorem d_M_endsAt_48 : decode (ab_bc mt_M_endsAt) 48 = .ok (.iload_n 3, 1) := by decide +kernel
theorem d_M_endsAt_49 : decode (ab_bc mt_M_endsAt) 49 = .ok (.ireturn, 1) := by decide +kernel
-- CableKeeperModel.endsAt(II)I over mx
theorem q_M_endsAt_0 {w : ab_Wd} {d n nc ns : Nat} {I : Nat → Nat → Int32} {L : Nat → Nat → Int64} {res : ab_Re} (v1 : Int32) (v2 : Int32) (hc : nc ≤ res.2.2.2.2.2.1) (hs : ns ≤ res.2.2.2.2.2.2)
    (h : ab_E w (d + 1) mt_M_endsAt 5 [.ref mx, .int v1, .int v2, .int 0, .int 0] [] (I, L, ab_RR, n, nc, ns) res) : ab_E w (d + 1) mt_M_endsAt 0 [.ref mx, .int v1, .int v2, .null, .null] [] (I, L, ab_RR, n, nc, ns) res := by
  refine ab_iconst (v := 0) d_M_endsAt_0 rfl ?_
  refine ab_istore_n (i := 3) d_M_endsAt_1 rfl (by decide) (Or.inr rfl) ?_
  refine ab_iconst (v := 0) d_M_endsAt_2 rfl ?_
  refine ab_istore (i := 4) d_M_endsAt_3 (by decide) (Or.inr rfl) ?_
  exact h
theorem q_M_endsAt_5 {w : ab_Wd} {d n nc ns : Nat} {I : Nat → Nat → Int32} {L : Nat → Nat → Int64} {res : ab_Re} (v1 : Int32) (v2 : Int32) (v3 : Int32) (v4 : Int32) (hc : nc ≤ res.2.2.2.2.2.1) (hs : ns ≤ res.2.2.2.2.2.2)
    (h : ∃ (r1 : Int32), ab_C w d mt_M_many [.ref mx] (I, L, ab_RR, n, nc, ns) (.inl (some (.int r1)), (I, L, ab_RR, n, nc, ns)) ∧ ((r1 ≤ v4 → (res = (.inl (some (.int v3)), (I, L, ab_RR, n, nc, ns)))) ∧ (¬ r1 ≤ v4 → (∃ (r3 : Int32), ab_C w d mt_M_has [.int v1, .int v4] (I, L, ab_RR, n, nc, ns) (.inl (some (.int r3)), (I, L, ab_RR, n, nc, ns)) ∧ ((r3 = 0 → (ab_E w (d + 1) mt_M_endsAt 39 [.ref mx, .int v1, .int v2, .int v3, .int v4] [.int v3] (I, L, ab_RR, n, nc, ns) res)) ∧ (¬ r3 = 0 → (∃ (r5 : Int32), ab_C w d mt_M_otherEnd [.ref mx, .int v4, .int v2] (I, L, ab_RR, n, nc, ns) (.inl (some (.int r5)), (I, L, ab_RR, n, nc, ns)) ∧ ((r5 = (-1) → (ab_E w (d + 1) mt_M_endsAt 39 [.ref mx, .int v1, .int v2, .int v3, .int v4] [.int v3] (I, L, ab_RR, n, nc, ns) res)) ∧ (¬ r5 = (-1) → (ab_E w (d + 1) mt_M_endsAt 40 [.ref mx, .int v1, .int v2, .int v3, .int v4] [.int 1, .int v3] (I, L, ab_RR, n, nc, ns) res)))))))))) : ab_E w (d + 1) mt_M_endsAt 5 [.ref mx, .int v1, .int v2, .int v3, .int v4] [] (I, L, ab_RR, n, nc, ns) res := by
  refine ab_iload (i := 4) d_M_endsAt_5 rfl ?_
  refine ab_aload_n (i := 0) d_M_endsAt_7 rfl rfl ?_
  obtain ⟨r1, hC, h⟩ := h
  refine ab_callV (me2 := mt_M_many) (b := mx) (as := []) (st := [.int v4]) (rv := (some (.int r1))) (M2 := (I, L, ab_RR, n, nc, ns)) d_M_endsAt_8 ce_M_many v_1635 v_1637 v_79 (by decide) rfl (Nat.le_of_ble_eq_true rfl) hC (Nat.le_refl _) (Nat.le_refl _) hc hs (fun j h9 => by cases h9) (fun _ _ => rfl) ?_
  show ab_E w (d + 1) mt_M_endsAt 11 [.ref mx, .int v1, .int v2, .int v3, .int v4] [.int r1, .int v4] (I, L, ab_RR, n, nc, ns) res
  refine ab_icmp_ge (tgt := 48) d_M_endsAt_11 (by decide) (fun c2 => ?_) (fun c2 => ?_)
  · have h := h.1 c2
    refine ab_iload_n (i := 3) d_M_endsAt_48 rfl rfl ?_
    exact ab_iret (ty := .int) d_M_endsAt_49 rfl rfl h
  · have h := h.2 c2
    refine ab_iload_n (i := 3) d_M_endsAt_14 rfl rfl ?_
    refine ab_iload_n (i := 1) d_M_endsAt_15 rfl rfl ?_
    refine ab_iload (i := 4) d_M_endsAt_16 rfl ?_
    obtain ⟨r3, hC, h⟩ := h
    refine ab_callS (me2 := mt_M_has) (as := [.int v1, .int v4]) (st := [.int v3]) (rv := (some (.int r3))) (M2 := (I, L, ab_RR, n, nc, ns)) d_M_endsAt_18 ce_M_has ⟨v_1648, Or.inl v_1647⟩ (Nat.le_of_ble_eq_true rfl) hC (Nat.le_refl _) (Nat.le_refl _) hc hs (fun j h9 => by cases h9) (fun _ _ => rfl) ?_
    show ab_E w (d + 1) mt_M_endsAt 21 [.ref mx, .int v1, .int v2, .int v3, .int v4] [.int r3, .int v3] (I, L, ab_RR, n, nc, ns) res
    refine ab_if_eq (tgt := 39) d_M_endsAt_21 (by decide) (fun c4 => ?_) (fun c4 => ?_)
    · have h := h.1 c4
      exact h
    · have h := h.2 c4
      refine ab_aload_n (i := 0) d_M_endsAt_24 rfl rfl ?_
      refine ab_iload (i := 4) d_M_endsAt_25 rfl ?_
      refine ab_iload_n (i := 2) d_M_endsAt_27 rfl rfl ?_
      obtain ⟨r5, hC, h⟩ := h
      refine ab_callV (me2 := mt_M_otherEnd) (b := mx) (as := [.int v4, .int v2]) (st := [.int v3]) (rv := (some (.int r5))) (M2 := (I, L, ab_RR, n, nc, ns)) d_M_endsAt_28 ce_M_otherEnd v_1691 v_1693 v_92 (by decide) rfl (Nat.le_of_ble_eq_true rfl) hC (Nat.le_refl _) (Nat.le_refl _) hc hs (fun j h9 => by cases h9) (fun _ _ => rfl) ?_
      show ab_E w (d + 1) mt_M_endsAt 31 [.ref mx, .int v1, .int v2, .int v3, .int v4] [.int r5, .int v3] (I, L, ab_RR, n, nc, ns) res
      refine ab_iconst (v := (-1)) d_M_endsAt_31 rfl ?_
      refine ab_icmp_eq (tgt := 39) d_M_endsAt_32 (by decide) (fun c6 => ?_) (fun c6 => ?_)
      · have h := h.1 c6
        exact h
      · have h := h.2 c6
        refine ab_iconst (v := 1) d_M_endsAt_35 rfl ?_
        refine ab_goto (tgt := 40) d_M_endsAt_36 (by decide) ?_
        exact h
theorem q_M_endsAt_39 {w : ab_Wd} {d n nc ns : Nat} {I : Nat → Nat → Int32} {L : Nat → Nat → Int64} {res : ab_Re} (v1 : Int32) (v2 : Int32) (v3 : Int32) (v4 : Int32) (s0 : Int32) (hc : nc ≤ res.2.2.2.2.2.1) (hs : ns ≤ res.2.2.2.2.2.2)
    (h : ab_E w (d + 1) mt_M_endsAt 40 [.ref mx, .int v1, .int v2, .int v3, .int v4] [.int 0, .int s0] (I, L, ab_RR, n, nc, ns) res) : ab_E w (d + 1) mt_M_endsAt 39 [.ref mx, .int v1, .int v2, .int v3, .int v4] [.int s0] (I, L, ab_RR, n, nc, ns) res := by
  refine ab_iconst (v := 0) d_M_endsAt_39 rfl ?_
  exact h
theorem q_M_endsAt_40 {w : ab_Wd} {d n nc ns : Nat} {I : Nat → Nat → Int32} {L : Nat → Nat → Int64} {res : ab_Re} (v1 : Int32) (v2 : Int32) (v3 : Int32) (v4 : Int32) (s0 : Int32) (s1 : Int32) (hc : nc ≤ res.2.2.2.2.2.1) (hs : ns ≤ res.2.2.2.2.2.2)
    (h : ab_E w (d + 1) mt_M_endsAt 5 [.ref mx, .int v1, .int v2, .int (s0 + s1), .int (v4 + 1)] [] (I, L, ab_RR, n, nc, ns) res) : ab_E w (d + 1) mt_M_endsAt 40 [.ref mx, .int v1, .int v2, .int v3, .int v4] [.int s1, .int s0] (I, L, ab_RR, n, nc, ns) res := by
  refine ab_iadd d_M_endsAt_40 ?_
  refine ab_istore_n (i := 3) d_M_endsAt_41 rfl (by decide) (Or.inr rfl) ?_
  refine ab_iinc (i := 4) (v := (v4 + 1)) d_M_endsAt_42 rfl rfl (by decide) (Or.inr rfl) ?_
  refine ab_goto (tgt := 5) d_M_endsAt_45 (by decide) ?_
  exact h
theorem d_M_hub_0 : decode (ab_bc mt_M_hub) 0 = .ok (.aload_n 0, 1) := by decide +kernel
theorem d_M_hub_1 : decode (ab_bc mt_M_hub) 1 = .ok (.invokevirtual 251, 3) := by decide +kernel
theorem d_M_hub_4 : decode (ab_bc mt_M_hub) 4 = .ok (.istore_n 1, 1) := by decide +kernel
theorem d_M_hub_5 : decode (ab_bc mt_M_hub) 5 = .ok (.iconst 0, 1) := by decide +kernel
theorem d_M_hub_6 : decode (ab_bc mt_M_hub) 6 = .ok (.istore_n 2, 1) := by decide +kernel
theorem d_M_hub_7 : decode (ab_bc mt_M_hub) 7 = .ok (.iconst 1, 1) := by decide +kernel
theorem d_M_hub_8 : decode (ab_bc mt_M_hub) 8 = .ok (.istore_n 3, 1) := by decide +kernel
theorem d_M_hub_9 : decode (ab_bc mt_M_hub) 9 = .ok (.iload_n 3, 1) := by decide +kernel
theorem d_M_hub_10 : decode (ab_bc mt_M_hub) 10 = .ok (.aload_n 0, 1) := by decide +kernel
theorem d_M_hub_11 : decode (ab_bc mt_M_hub) 11 = .ok (.getfield 21, 3) := by decide +kernel
theorem d_M_hub_14 : decode (ab_bc mt_M_hub) 14 = .ok (.if_icmp .ge 30, 3) := by decide +kernel
theorem d_M_hub_17 : decode (ab_bc mt_M_hub) 17 = .ok (.aload_n 0, 1) := by decide +kernel
theorem d_M_hub_18 : decode (ab_bc mt_M_hub) 18 = .ok (.iload_n 1, 1) := by decide +kernel
theorem d_M_hub_19 : decode (ab_bc mt_M_hub) 19 = .ok (.iload_n 3, 1) := by decide +kernel
theorem d_M_hub_20 : decode (ab_bc mt_M_hub) 20 = .ok (.invokevirtual 288, 3) := by decide +kernel
theorem d_M_hub_23 : decode (ab_bc mt_M_hub) 23 = .ok (.aload_n 0, 1) := by decide +kernel
theorem d_M_hub_24 : decode (ab_bc mt_M_hub) 24 = .ok (.iload_n 1, 1) := by decide +kernel
theorem d_M_hub_25 : decode (ab_bc mt_M_hub) 25 = .ok (.iload_n 2, 1) := by decide +kernel
theorem d_M_hub_26 : decode (ab_bc mt_M_hub) 26 = .ok (.invokevirtual 288, 3) := by decide +kernel
theorem d_M_hub_29 : decode (ab_bc mt_M_hub) 29 = .ok (.if_icmp .le 7, 3) := by decide +kernel
theorem d_M_hub_32 : decode (ab_bc mt_M_hub) 32 = .ok (.iload_n 3, 1) := by decide +kernel
theorem d_M_hub_33 : decode (ab_bc mt_M_hub) 33 = .ok (.goto 4, 3) := by decide +kernel
theorem d_M_hub_36 : decode (ab_bc mt_M_hub) 36 = .ok (.iload_n 2, 1) := by decide +kernel
theorem d_M_hub_37 : decode (ab_bc mt_M_hub) 37 = .ok (.istore_n 2, 1) := by decide +kernel
theorem d_M_hub_38 : decode (ab_bc mt_M_hub) 38 = .ok (.iinc 3 1, 3) := by decide +kernel
theorem d_M_hub_41 : decode (ab_bc mt_M_hub) 41 = .ok (.goto (-32), 3) := by decide +kernel
theorem d_M_hub_44 : decode (ab_bc mt_M_hub) 44 = .ok (.iload_n 2, 1) := by decide +kernel
theorem d_M_hub_45 : decode (ab_bc mt_M_hub) 45 = .ok (.ireturn, 1) := by decide +kernel
-- CableKeeperModel.hub()I over mx
theorem q_M_hub_0 {w : ab_Wd} {d n nc ns : Nat} {I : Nat → Nat → Int32} {L : Nat → Nat → Int64} {res : ab_Re}  (hc : nc ≤ res.2.2.2.2.2.1) (hs : ns ≤ res.2.2.2.2.2.2)
    (h : ∃ (r1 : Int32) (I2 : Nat → Nat → Int32), ab_C w d mt_M_netNow [.ref mx] (I, L, ab_RR, n, nc, ns) (.inl (some (.int r1)), (I2, L, ab_RR, n, nc, ns)) ∧ ab_E w (d + 1) mt_M_hub 9 [.ref mx, .int r1, .int 0, .int 1] [] (I2, L, ab_RR, n, nc, ns) res) : ab_E w (d + 1) mt_M_hub 0 [.ref mx, .null, .null, .null] [] (I, L, ab_RR, n, nc, ns) res := by
  refine ab_aload_n (i := 0) d_M_hub_0 rfl rfl ?_
  obtain ⟨r1, I2, hC, h⟩ := h
  refine ab_callV (me2 := mt_M_netNow) (b := mx) (as := []) (st := []) (rv := (some (.int r1))) (M2 := (I2, L, ab_RR, n, nc, ns)) d_M_hub_1 ce_M_netNow v_1639 v_1641 v_80 (by decide) rfl (Nat.le_of_ble_eq_true rfl) hC (Nat.le_refl _) (Nat.le_refl _) hc hs (fun j h9 => by cases h9) (fun _ _ => rfl) ?_
  show ab_E w (d + 1) mt_M_hub 4 [.ref mx, .null, .null, .null] [.int r1] (I2, L, ab_RR, n, nc, ns) res
  refine ab_istore_n (i := 1) d_M_hub_4 rfl (by decide) (Or.inr rfl) ?_
  refine ab_iconst (v := 0) d_M_hub_5 rfl ?_
  refine ab_istore_n (i := 2) d_M_hub_6 rfl (by decide) (Or.inr rfl) ?_
  refine ab_iconst (v := 1) d_M_hub_7 rfl ?_
  refine ab_istore_n (i := 3) d_M_hub_8 rfl (by decide) (Or.inr rfl) ?_
  exact h
theorem q_M_hub_9 {w : ab_Wd} {d n nc ns : Nat} {I : Nat → Nat → Int32} {L : Nat → Nat → Int64} {res : ab_Re} (v1 : Int32) (v2 : Int32) (v3 : Int32) (hc : nc ≤ res.2.2.2.2.2.1) (hs : ns ≤ res.2.2.2.2.2.2)
    (h : (((I mx 2) ≤ v3 → (res = (.inl (some (.int v2)), (I, L, ab_RR, n, nc, ns)))) ∧ (¬ (I mx 2) ≤ v3 → (∃ (r2 : Int32), ab_C w d mt_M_endsAt [.ref mx, .int v1, .int v3] (I, L, ab_RR, n, nc, ns) (.inl (some (.int r2)), (I, L, ab_RR, n, nc, ns)) ∧ ∃ (r3 : Int32), ab_C w d mt_M_endsAt [.ref mx, .int v1, .int v2] (I, L, ab_RR, n, nc, ns) (.inl (some (.int r3)), (I, L, ab_RR, n, nc, ns)) ∧ ((r2 ≤ r3 → (ab_E w (d + 1) mt_M_hub 37 [.ref mx, .int v1, .int v2, .int v3] [.int v2] (I, L, ab_RR, n, nc, ns) res)) ∧ (¬ r2 ≤ r3 → (ab_E w (d + 1) mt_M_hub 37 [.ref mx, .int v1, .int v2, .int v3] [.int v3] (I, L, ab_RR, n, nc, ns) res))))))) : ab_E w (d + 1) mt_M_hub 9 [.ref mx, .int v1, .int v2, .int v3] [] (I, L, ab_RR, n, nc, ns) res := by
  refine ab_iload_n (i := 3) d_M_hub_9 rfl rfl ?_
  refine ab_aload_n (i := 0) d_M_hub_10 rfl rfl ?_
  refine ab_getI (ci := 11) (k := 2) d_M_hub_11 v_1370 rfl (by decide) (by decide) rfl ?_
  refine ab_icmp_ge (tgt := 44) d_M_hub_14 (by decide) (fun c1 => ?_) (fun c1 => ?_)
  · have h := h.1 c1
    refine ab_iload_n (i := 2) d_M_hub_44 rfl rfl ?_
    exact ab_iret (ty := .int) d_M_hub_45 rfl rfl h
  · have h := h.2 c1
    refine ab_aload_n (i := 0) d_M_hub_17 rfl rfl ?_
    refine ab_iload_n (i := 1) d_M_hub_18 rfl rfl ?_
    refine ab_iload_n (i := 3) d_M_hub_19 rfl rfl ?_
    obtain ⟨r2, hC, h⟩ := h
    refine ab_callV (me2 := mt_M_endsAt) (b := mx) (as := [.int v1, .int v3]) (st := []) (rv := (some (.int r2))) (M2 := (I, L, ab_RR, n, nc, ns)) d_M_hub_20 ce_M_endsAt v_1703 v_1705 v_95 (by decide) rfl (Nat.le_of_ble_eq_true rfl) hC (Nat.le_refl _) (Nat.le_refl _) hc hs (fun j h9 => by cases h9) (fun _ _ => rfl) ?_
    show ab_E w (d + 1) mt_M_hub 23 [.ref mx, .int v1, .int v2, .int v3] [.int r2] (I, L, ab_RR, n, nc, ns) res
    refine ab_aload_n (i := 0) d_M_hub_23 rfl rfl ?_
    refine ab_iload_n (i := 1) d_M_hub_24 rfl rfl ?_
    refine ab_iload_n (i := 2) d_M_hub_25 rfl rfl ?_
    obtain ⟨r3, hC, h⟩ := h
    refine ab_callV (me2 := mt_M_endsAt) (b := mx) (as := [.int v1, .int v2]) (st := [.int r2]) (rv := (some (.int r3))) (M2 := (I, L, ab_RR, n, nc, ns)) d_M_hub_26 ce_M_endsAt v_1703 v_1705 v_95 (by decide) rfl (Nat.le_of_ble_eq_true rfl) hC (Nat.le_refl _) (Nat.le_refl _) hc hs (fun j h9 => by cases h9) (fun _ _ => rfl) ?_
    show ab_E w (d + 1) mt_M_hub 29 [.ref mx, .int v1, .int v2, .int v3] [.int r3, .int r2] (I, L, ab_RR, n, nc, ns) res
    refine ab_icmp_le (tgt := 36) d_M_hub_29 (by decide) (fun c4 => ?_) (fun c4 => ?_)
    · have h := h.1 c4
      refine ab_iload_n (i := 2) d_M_hub_36 rfl rfl ?_
      exact h
    · have h := h.2 c4
      refine ab_iload_n (i := 3) d_M_hub_32 rfl rfl ?_
      refine ab_goto (tgt := 37) d_M_hub_33 (by decide) ?_
      exact h
theorem q_M_hub_37 {w : ab_Wd} {d n nc ns : Nat} {I : Nat → Nat → Int32} {L : Nat → Nat → Int64} {res : ab_Re} (v1 : Int32) (v2 : Int32) (v3 : Int32) (s0 : Int32) (hc : nc ≤ res.2.2.2.2.2.1) (hs : ns ≤ res.2.2.2.2.2.2)
    (h : ab_E w (d + 1) mt_M_hub 9 [.ref mx, .int v1, .int s0, .int (v3 + 1)] [] (I, L, ab_RR, n, nc, ns) res) : ab_E w (d + 1) mt_M_hub 37 [.ref mx, .int v1, .int v2, .int v3] [.int s0] (I, L, ab_RR, n, nc, ns) res := by
  refine ab_istore_n (i := 2) d_M_hub_37 rfl (by decide) (Or.inr rfl) ?_
  refine ab_iinc (i := 3) (v := (v3 + 1)) d_M_hub_38 rfl rfl (by decide) (Or.inr rfl) ?_
  refine ab_goto (tgt := 9) d_M_hub_41 (by decide) ?_
  exact h
theorem d_M_longest_0 : decode (ab_bc mt_M_longest) 0 = .ok (.aload_n 0, 1) := by decide +kernel
theorem d_M_longest_1 : decode (ab_bc mt_M_longest) 1 = .ok (.invokevirtual 251, 3) := by decide +kernel
theorem d_M_longest_4 : decode (ab_bc mt_M_longest) 4 = .ok (.istore_n 1, 1) := by decide +kernel
theorem d_M_longest_5 : decode (ab_bc mt_M_longest) 5 = .ok (.iconst 0, 1) := by decide +kernel
theorem d_M_longest_6 : decode (ab_bc mt_M_longest) 6 = .ok (.istore_n 2, 1) := by decide +kernel
theorem d_M_longest_7 : decode (ab_bc mt_M_longest) 7 = .ok (.iconst 0, 1) := by decide +kernel
theorem d_M_longest_8 : decode (ab_bc mt_M_longest) 8 = .ok (.istore_n 3, 1) := by decide +kernel
theorem d_M_longest_9 : decode (ab_bc mt_M_longest) 9 = .ok (.iload_n 3, 1) := by decide +kernel
theorem d_M_longest_10 : decode (ab_bc mt_M_longest) 10 = .ok (.aload_n 0, 1) := by decide +kernel
theorem d_M_longest_11 : decode (ab_bc mt_M_longest) 11 = .ok (.getfield 21, 3) := by decide +kernel
theorem d_M_longest_14 : decode (ab_bc mt_M_longest) 14 = .ok (.if_icmp .ge 45, 3) := by decide +kernel
theorem d_M_longest_17 : decode (ab_bc mt_M_longest) 17 = .ok (.iconst 0, 1) := by decide +kernel
theorem d_M_longest_18 : decode (ab_bc mt_M_longest) 18 = .ok (.istore 4, 2) := by decide +kernel
theorem d_M_longest_20 : decode (ab_bc mt_M_longest) 20 = .ok (.iload 4, 2) := by decide +kernel
theorem d_M_longest_22 : decode (ab_bc mt_M_longest) 22 = .ok (.iload_n 3, 1) := by decide +kernel
theorem d_M_longest_23 : decode (ab_bc mt_M_longest) 23 = .ok (.if_icmp .ge 30, 3) := by decide +kernel
theorem d_M_longest_26 : decode (ab_bc mt_M_longest) 26 = .ok (.aload_n 0, 1) := by decide +kernel
theorem d_M_longest_27 : decode (ab_bc mt_M_longest) 27 = .ok (.iload_n 1, 1) := by decide +kernel
theorem d_M_longest_28 : decode (ab_bc mt_M_longest) 28 = .ok (.iload_n 3, 1) := by decide +kernel
theorem d_M_longest_29 : decode (ab_bc mt_M_longest) 29 = .ok (.iload 4, 2) := by decide +kernel
theorem d_M_longest_31 : decode (ab_bc mt_M_longest) 31 = .ok (.invokevirtual 275, 3) := by decide +kernel
theorem d_M_longest_34 : decode (ab_bc mt_M_longest) 34 = .ok (.iconst (-1), 1) := by decide +kernel
theorem d_M_longest_35 : decode (ab_bc mt_M_longest) 35 = .ok (.if_icmp .eq 12, 3) := by decide +kernel
theorem d_M_longest_38 : decode (ab_bc mt_M_longest) 38 = .ok (.iload_n 2, 1) := by decide +kernel
theorem d_M_longest_39 : decode (ab_bc mt_M_longest) 39 = .ok (.aload_n 0, 1) := by decide +kernel
theorem d_M_longest_40 : decode (ab_bc mt_M_longest) 40 = .ok (.invokevirtual 291, 3) := by decide +kernel
theorem d_M_longest_43 : decode (ab_bc mt_M_longest) 43 = .ok (.invokestatic 225, 3) := by decide +kernel
theorem d_M_longest_46 : decode (ab_bc mt_M_longest) 46 = .ok (.istore_n 2, 1) := by decide +kernel
theorem d_M_longest_47 : decode (ab_bc mt_M_longest) 47 = .ok (.iinc 4 1, 3) := by decide +kernel
theorem d_M_longest_50 : decode (ab_bc mt_M_longest) 50 = .ok (.goto (-30), 3) := by decide +kernel
theorem d_M_longest_53 : decode (ab_bc mt_M_longest) 53 = .ok (.iinc 3 1, 3) := by decide +kernel
theorem d_M_longest_56 : decode (ab_bc mt_M_longest) 56 = .ok (.goto (-47), 3) := by decide +kernel
theorem d_M_longest_59 : decode (ab_bc mt_M_longest) 59 = .ok (.iload_n 2, 1) := by decide +kernel
theorem d_M_longest_60 : decode (ab_bc mt_M_longest) 60 = .ok (.ireturn, 1) := by decide +kernel
-- CableKeeperModel.longest()I over mx
theorem q_M_longest_0 {w : ab_Wd} {d n nc ns : Nat} {I : Nat → Nat → Int32} {L : Nat → Nat → Int64} {res : ab_Re}  (hc : nc ≤ res.2.2.2.2.2.1) (hs : ns ≤ res.2.2.2.2.2.2)
    (h : ∃ (r1 : Int32) (I2 : Nat → Nat → Int32), ab_C w d mt_M_netNow [.ref mx] (I, L, ab_RR, n, nc, ns) (.inl (some (.int r1)), (I2, L, ab_RR, n, nc, ns)) ∧ ab_E w (d + 1) mt_M_longest 9 [.ref mx, .int r1, .int 0, .int 0, .null] [] (I2, L, ab_RR, n, nc, ns) res) : ab_E w (d + 1) mt_M_longest 0 [.ref mx, .null, .null, .null, .null] [] (I, L, ab_RR, n, nc, ns) res := by
  refine ab_aload_n (i := 0) d_M_longest_0 rfl rfl ?_
  obtain ⟨r1, I2, hC, h⟩ := h
  refine ab_callV (me2 := mt_M_netNow) (b := mx) (as := []) (st := []) (rv := (some (.int r1))) (M2 := (I2, L, ab_RR, n, nc, ns)) d_M_longest_1 ce_M_netNow v_1639 v_1641 v_80 (by decide) rfl (Nat.le_of_ble_eq_true rfl) hC (Nat.le_refl _) (Nat.le_refl _) hc hs (fun j h9 => by cases h9) (fun _ _ => rfl) ?_
  show ab_E w (d + 1) mt_M_longest 4 [.ref mx, .null, .null, .null, .null] [.int r1] (I2, L, ab_RR, n, nc, ns) res
  refine ab_istore_n (i := 1) d_M_longest_4 rfl (by decide) (Or.inr rfl) ?_
  refine ab_iconst (v := 0) d_M_longest_5 rfl ?_
  refine ab_istore_n (i := 2) d_M_longest_6 rfl (by decide) (Or.inr rfl) ?_
  refine ab_iconst (v := 0) d_M_longest_7 rfl ?_
  refine ab_istore_n (i := 3) d_M_longest_8 rfl (by decide) (Or.inr rfl) ?_
  exact h
theorem q_M_longest_9 {w : ab_Wd} {d n nc ns : Nat} {I : Nat → Nat → Int32} {L : Nat → Nat → Int64} {res : ab_Re} (v1 : Int32) (v2 : Int32) (v3 : Int32) (hc : nc ≤ res.2.2.2.2.2.1) (hs : ns ≤ res.2.2.2.2.2.2)
    (h : (((I mx 2) ≤ v3 → (res = (.inl (some (.int v2)), (I, L, ab_RR, n, nc, ns)))) ∧ (¬ (I mx 2) ≤ v3 → (ab_E w (d + 1) mt_M_longest 20 [.ref mx, .int v1, .int v2, .int v3, .int 0] [] (I, L, ab_RR, n, nc, ns) res)))) : ab_E w (d + 1) mt_M_longest 9 [.ref mx, .int v1, .int v2, .int v3, .null] [] (I, L, ab_RR, n, nc, ns) res := by
  refine ab_iload_n (i := 3) d_M_longest_9 rfl rfl ?_
  refine ab_aload_n (i := 0) d_M_longest_10 rfl rfl ?_
  refine ab_getI (ci := 11) (k := 2) d_M_longest_11 v_1370 rfl (by decide) (by decide) rfl ?_
  refine ab_icmp_ge (tgt := 59) d_M_longest_14 (by decide) (fun c1 => ?_) (fun c1 => ?_)
  · have h := h.1 c1
    refine ab_iload_n (i := 2) d_M_longest_59 rfl rfl ?_
    exact ab_iret (ty := .int) d_M_longest_60 rfl rfl h
  · have h := h.2 c1
    refine ab_iconst (v := 0) d_M_longest_17 rfl ?_
    refine ab_istore (i := 4) d_M_longest_18 (by decide) (Or.inr rfl) ?_
    exact h
theorem q_M_longest_20 {w : ab_Wd} {d n nc ns : Nat} {I : Nat → Nat → Int32} {L : Nat → Nat → Int64} {res : ab_Re} (v1 : Int32) (v2 : Int32) (v3 : Int32) (v4 : Int32) (hc : nc ≤ res.2.2.2.2.2.1) (hs : ns ≤ res.2.2.2.2.2.2)
    (h : ((v3 ≤ v4 → (ab_E w (d + 1) mt_M_longest 9 [.ref mx, .int v1, .int v2, .int (v3 + 1), .null] [] (I, L, ab_RR, n, nc, ns) res)) ∧ (¬ v3 ≤ v4 → (∃ (r2 : Int32) (I3 : Nat → Nat → Int32), ab_C w d mt_M_tellWay [.ref mx, .int v1, .int v3, .int v4] (I, L, ab_RR, n, nc, ns) (.inl (some (.int r2)), (I3, L, ab_RR, n, nc, ns)) ∧ ((r2 = (-1) → (ab_E w (d + 1) mt_M_longest 47 [.ref mx, .int v1, .int v2, .int v3, .int v4] [] (I3, L, ab_RR, n, nc, ns) res)) ∧ (¬ r2 = (-1) → (∃ (r5 : Int32), ab_C w d mt_M_pricesOnWay [.ref mx] (I3, L, ab_RR, n, nc, ns) (.inl (some (.int r5)), (I3, L, ab_RR, n, nc, ns)) ∧ ab_E w (d + 1) mt_M_longest 47 [.ref mx, .int v1, .int (ab_max32 v2 r5), .int v3, .int v4] [] (I3, L, ab_RR, n, nc, ns) res))))))) : ab_E w (d + 1) mt_M_longest 20 [.ref mx, .int v1, .int v2, .int v3, .int v4] [] (I, L, ab_RR, n, nc, ns) res := by
  refine ab_iload (i := 4) d_M_longest_20 rfl ?_
  refine ab_iload_n (i := 3) d_M_longest_22 rfl rfl ?_
  refine ab_icmp_ge (tgt := 53) d_M_longest_23 (by decide) (fun c1 => ?_) (fun c1 => ?_)
  · have h := h.1 c1
    refine ab_iinc (i := 3) (v := (v3 + 1)) d_M_longest_53 rfl rfl (by decide) (Or.inr rfl) ?_
    refine ab_goto (tgt := 9) d_M_longest_56 (by decide) ?_
    refine ab_drop 4 ?_
    exact h
  · have h := h.2 c1
    refine ab_aload_n (i := 0) d_M_longest_26 rfl rfl ?_
    refine ab_iload_n (i := 1) d_M_longest_27 rfl rfl ?_
    refine ab_iload_n (i := 3) d_M_longest_28 rfl rfl ?_
    refine ab_iload (i := 4) d_M_longest_29 rfl ?_
    obtain ⟨r2, I3, hC, h⟩ := h
    refine ab_callV (me2 := mt_M_tellWay) (b := mx) (as := [.int v1, .int v3, .int v4]) (st := []) (rv := (some (.int r2))) (M2 := (I3, L, ab_RR, n, nc, ns)) d_M_longest_31 ce_M_tellWay v_1687 v_1689 v_91 (by decide) rfl (Nat.le_of_ble_eq_true rfl) hC (Nat.le_refl _) (Nat.le_refl _) hc hs (fun j h9 => by cases h9) (fun _ _ => rfl) ?_
    show ab_E w (d + 1) mt_M_longest 34 [.ref mx, .int v1, .int v2, .int v3, .int v4] [.int r2] (I3, L, ab_RR, n, nc, ns) res
    refine ab_iconst (v := (-1)) d_M_longest_34 rfl ?_
    refine ab_icmp_eq (tgt := 47) d_M_longest_35 (by decide) (fun c4 => ?_) (fun c4 => ?_)
    · have h := h.1 c4
      exact h
    · have h := h.2 c4
      refine ab_iload_n (i := 2) d_M_longest_38 rfl rfl ?_
      refine ab_aload_n (i := 0) d_M_longest_39 rfl rfl ?_
      obtain ⟨r5, hC, h⟩ := h
      refine ab_callV (me2 := mt_M_pricesOnWay) (b := mx) (as := []) (st := [.int v2]) (rv := (some (.int r5))) (M2 := (I3, L, ab_RR, n, nc, ns)) d_M_longest_40 ce_M_pricesOnWay v_1711 v_1713 v_97 (by decide) rfl (Nat.le_of_ble_eq_true rfl) hC (Nat.le_refl _) (Nat.le_refl _) hc hs (fun j h9 => by cases h9) (fun _ _ => rfl) ?_
      show ab_E w (d + 1) mt_M_longest 43 [.ref mx, .int v1, .int v2, .int v3, .int v4] [.int r5, .int v2] (I3, L, ab_RR, n, nc, ns) res
      refine ab_max d_M_longest_43 v_1662 v_451 v_150 v_452 (Nat.succ_le_succ (Nat.zero_le _)) (Nat.le_of_ble_eq_true rfl) hc hs ?_
      refine ab_istore_n (i := 2) d_M_longest_46 rfl (by decide) (Or.inr rfl) ?_
      exact h
theorem q_M_longest_47 {w : ab_Wd} {d n nc ns : Nat} {I : Nat → Nat → Int32} {L : Nat → Nat → Int64} {res : ab_Re} (v1 : Int32) (v2 : Int32) (v3 : Int32) (v4 : Int32) (hc : nc ≤ res.2.2.2.2.2.1) (hs : ns ≤ res.2.2.2.2.2.2)
    (h : ab_E w (d + 1) mt_M_longest 20 [.ref mx, .int v1, .int v2, .int v3, .int (v4 + 1)] [] (I, L, ab_RR, n, nc, ns) res) : ab_E w (d + 1) mt_M_longest 47 [.ref mx, .int v1, .int v2, .int v3, .int v4] [] (I, L, ab_RR, n, nc, ns) res := by
  refine ab_iinc (i := 4) (v := (v4 + 1)) d_M_longest_47 rfl rfl (by decide) (Or.inr rfl) ?_
  refine ab_goto (tgt := 20) d_M_longest_50 (by decide) ?_
  exact h
theorem d_M_twins_0 : decode (ab_bc mt_M_twins) 0 = .ok (.aload_n 0, 1) := by decide +kernel
theorem d_M_twins_1 : decode (ab_bc mt_M_twins) 1 = .ok (.invokevirtual 251, 3) := by decide +kernel
theorem d_M_twins_4 : decode (ab_bc mt_M_twins) 4 = .ok (.istore_n 1, 1) := by decide +kernel
theorem d_M_twins_5 : decode (ab_bc mt_M_twins) 5 = .ok (.iconst 0, 1) := by decide +kernel
theorem d_M_twins_6 : decode (ab_bc mt_M_twins) 6 = .ok (.istore_n 2, 1) := by decide +kernel
theorem d_M_twins_7 : decode (ab_bc mt_M_twins) 7 = .ok (.iload_n 2, 1) := by decide +kernel
theorem d_M_twins_8 : decode (ab_bc mt_M_twins) 8 = .ok (.aload_n 0, 1) := by decide +kernel
theorem d_M_twins_9 : decode (ab_bc mt_M_twins) 9 = .ok (.invokevirtual 234, 3) := by decide +kernel
theorem d_M_twins_12 : decode (ab_bc mt_M_twins) 12 = .ok (.if_icmp .ge 38, 3) := by decide +kernel
theorem d_M_twins_15 : decode (ab_bc mt_M_twins) 15 = .ok (.aload_n 0, 1) := by decide +kernel
theorem d_M_twins_16 : decode (ab_bc mt_M_twins) 16 = .ok (.getfield 55, 3) := by decide +kernel
theorem d_M_twins_19 : decode (ab_bc mt_M_twins) 19 = .ok (.iload_n 2, 1) := by decide +kernel
theorem d_M_twins_20 : decode (ab_bc mt_M_twins) 20 = .ok (.aload_n 0, 1) := by decide +kernel
theorem d_M_twins_21 : decode (ab_bc mt_M_twins) 21 = .ok (.iload_n 2, 1) := by decide +kernel
theorem d_M_twins_22 : decode (ab_bc mt_M_twins) 22 = .ok (.invokevirtual 222, 3) := by decide +kernel
theorem d_M_twins_25 : decode (ab_bc mt_M_twins) 25 = .ok (.iastore, 1) := by decide +kernel
theorem d_M_twins_26 : decode (ab_bc mt_M_twins) 26 = .ok (.aload_n 0, 1) := by decide +kernel
theorem d_M_twins_27 : decode (ab_bc mt_M_twins) 27 = .ok (.getfield 24, 3) := by decide +kernel
theorem d_M_twins_30 : decode (ab_bc mt_M_twins) 30 = .ok (.bipush 51, 2) := by decide +kernel
theorem d_M_twins_32 : decode (ab_bc mt_M_twins) 32 = .ok (.iload_n 2, 1) := by decide +kernel
theorem d_M_twins_33 : decode (ab_bc mt_M_twins) 33 = .ok (.iadd, 1) := by decide +kernel
theorem d_M_twins_34 : decode (ab_bc mt_M_twins) 34 = .ok (.sipush 1000, 3) := by decide +kernel
theorem d_M_twins_37 : decode (ab_bc mt_M_twins) 37 = .ok (.aload_n 0, 1) := by decide +kernel
theorem d_M_twins_38 : decode (ab_bc mt_M_twins) 38 = .ok (.iload_n 2, 1) := by decide +kernel
theorem d_M_twins_39 : decode (ab_bc mt_M_twins) 39 = .ok (.invokevirtual 222, 3) := by decide +kernel
theorem d_M_twins_42 : decode (ab_bc mt_M_twins) 42 = .ok (.isub, 1) := by decide +kernel
theorem d_M_twins_43 : decode (ab_bc mt_M_twins) 43 = .ok (.iastore, 1) := by decide +kernel
theorem d_M_twins_44 : decode (ab_bc mt_M_twins) 44 = .ok (.iinc 2 1, 3) := by decide +kernel
theorem d_M_twins_47 : decode (ab_bc mt_M_twins) 47 = .ok (.goto (-40), 3) := by decide +kernel
theorem d_M_twins_50 : decode (ab_bc mt_M_twins) 50 = .ok (.aload_n 0, 1) := by decide +kernel
theorem d_M_twins_51 : decode (ab_bc mt_M_twins) 51 = .ok (.invokevirtual 251, 3) := by decide +kernel
theorem d_M_twins_54 : decode (ab_bc mt_M_twins) 54 = .ok (.istore_n 2, 1) := by decide +kernel
theorem d_M_twins_55 : decode (ab_bc mt_M_twins) 55 = .ok (.iconst 0, 1) := by decide +kernel
theorem d_M_twins_56 : decode (ab_bc mt_M_twins) 56 = .ok (.istore_n 3, 1) := by decide +kernel
theorem d_M_twins_57 : decode (ab_bc mt_M_twins) 57 = .ok (.iload_n 3, 1) := by decide +kernel
theorem d_M_twins_58 : decode (ab_bc mt_M_twins) 58 = .ok (.aload_n 0, 1) := by decide +kernel
theorem d_M_twins_59 : decode (ab_bc mt_M_twins) 59 = .ok (.invokevirtual 234, 3) := by decide +kernel
theorem d_M_twins_62 : decode (ab_bc mt_M_twins) 62 = .ok (.if_icmp .ge 24, 3) := by decide +kernel
theorem d_M_twins_65 : decode (ab_bc mt_M_twins) 65 = .ok (.aload_n 0, 1) := by decide +kernel
theorem d_M_twins_66 : decode (ab_bc mt_M_twins) 66 = .ok (.getfield 24, 3) := by decide +kernel
theorem d_M_twins_69 : decode (ab_bc mt_M_twins) 69 = .ok (.bipush 51, 2) := by decide +kernel
theorem d_M_twins_71 : decode (ab_bc mt_M_twins) 71 = .ok (.iload_n 3, 1) := by decide +kernel
theorem d_M_twins_72 : decode (ab_bc mt_M_twins) 72 = .ok (.iadd, 1) := by decide +kernel
theorem d_M_twins_73 : decode (ab_bc mt_M_twins) 73 = .ok (.aload_n 0, 1) := by decide +kernel
theorem d_M_twins_74 : decode (ab_bc mt_M_twins) 74 = .ok (.getfield 55, 3) := by decide +kernel
theorem d_M_twins_77 : decode (ab_bc mt_M_twins) 77 = .ok (.iload_n 3, 1) := by decide +kernel
theorem d_M_twins_78 : decode (ab_bc mt_M_twins) 78 = .ok (.iaload, 1) := by decide +kernel
theorem d_M_twins_79 : decode (ab_bc mt_M_twins) 79 = .ok (.iastore, 1) := by decide +kernel
theorem d_M_twins_80 : decode (ab_bc mt_M_twins) 80 = .ok (.iinc 3 1, 3) := by decide +kernel
theorem d_M_twins_83 : decode (ab_bc mt_M_twins) 83 = .ok (.goto (-26), 3) := by decide +kernel
theorem d_M_twins_86 : decode (ab_bc mt_M_twins) 86 = .ok (.iload_n 1, 1) := by decide +kernel
theorem d_M_twins_87 : decode (ab_bc mt_M_twins) 87 = .ok (.iload_n 2, 1) := by decide +kernel
theorem d_M_twins_88 : decode (ab_bc mt_M_twins) 88 = .ok (.iand, 1) := by decide +kernel
theorem d_M_twins_89 : decode (ab_bc mt_M_twins) 89 = .ok (.ireturn, 1) := by decide +kernel
-- CableKeeperModel.twins()I over mx
theorem q_M_twins_0 {w : ab_Wd} {d n nc ns : Nat} {I : Nat → Nat → Int32} {L : Nat → Nat → Int64} {res : ab_Re}  (hc : nc ≤ res.2.2.2.2.2.1) (hs : ns ≤ res.2.2.2.2.2.2)
    (h : ∃ (r1 : Int32) (I2 : Nat → Nat → Int32), ab_C w d mt_M_netNow [.ref mx] (I, L, ab_RR, n, nc, ns) (.inl (some (.int r1)), (I2, L, ab_RR, n, nc, ns)) ∧ ab_E w (d + 1) mt_M_twins 7 [.ref mx, .int r1, .int 0, .null] [] (I2, L, ab_RR, n, nc, ns) res) : ab_E w (d + 1) mt_M_twins 0 [.ref mx, .null, .null, .null] [] (I, L, ab_RR, n, nc, ns) res := by
  refine ab_aload_n (i := 0) d_M_twins_0 rfl rfl ?_
  obtain ⟨r1, I2, hC, h⟩ := h
  refine ab_callV (me2 := mt_M_netNow) (b := mx) (as := []) (st := []) (rv := (some (.int r1))) (M2 := (I2, L, ab_RR, n, nc, ns)) d_M_twins_1 ce_M_netNow v_1639 v_1641 v_80 (by decide) rfl (Nat.le_of_ble_eq_true rfl) hC (Nat.le_refl _) (Nat.le_refl _) hc hs (fun j h9 => by cases h9) (fun _ _ => rfl) ?_
  show ab_E w (d + 1) mt_M_twins 4 [.ref mx, .null, .null, .null] [.int r1] (I2, L, ab_RR, n, nc, ns) res
  refine ab_istore_n (i := 1) d_M_twins_4 rfl (by decide) (Or.inr rfl) ?_
  refine ab_iconst (v := 0) d_M_twins_5 rfl ?_
  refine ab_istore_n (i := 2) d_M_twins_6 rfl (by decide) (Or.inr rfl) ?_
  exact h
theorem q_M_twins_7 {w : ab_Wd} {d n nc ns : Nat} {I : Nat → Nat → Int32} {L : Nat → Nat → Int64} {res : ab_Re} (v1 : Int32) (v2 : Int32) (hc : nc ≤ res.2.2.2.2.2.1) (hs : ns ≤ res.2.2.2.2.2.2)
    (h : ∃ (r1 : Int32), ab_C w d mt_M_many [.ref mx] (I, L, ab_RR, n, nc, ns) (.inl (some (.int r1)), (I, L, ab_RR, n, nc, ns)) ∧ ((r1 ≤ v2 → (∃ (r3 : Int32) (I4 : Nat → Nat → Int32), ab_C w d mt_M_netNow [.ref mx] (I, L, ab_RR, n, nc, ns) (.inl (some (.int r3)), (I4, L, ab_RR, n, nc, ns)) ∧ ab_E w (d + 1) mt_M_twins 57 [.ref mx, .int v1, .int r3, .int 0] [] (I4, L, ab_RR, n, nc, ns) res)) ∧ (¬ r1 ≤ v2 → (∃ (r5 : Int32), ab_C w d mt_M_priceOf [.ref mx, .int v2] (I, L, ab_RR, n, nc, ns) (.inl (some (.int r5)), (I, L, ab_RR, n, nc, ns)) ∧ (vp_in v2 24) ∧ ∃ (r7 : Int32), ab_C w d mt_M_priceOf [.ref mx, .int v2] ((ab_up I mx_pricesThen v2.toNatClampNeg r5), L, ab_RR, n, nc, ns) (.inl (some (.int r7)), ((ab_up I mx_pricesThen v2.toNatClampNeg r5), L, ab_RR, n, nc, ns)) ∧ (vp_in (51 + v2) 399) ∧ ab_E w (d + 1) mt_M_twins 7 [.ref mx, .int v1, .int (v2 + 1), .null] [] ((ab_up (ab_up I mx_pricesThen v2.toNatClampNeg r5) mx_now (51 + v2).toNatClampNeg (1000 - r7)), L, ab_RR, n, nc, ns) res)))) : ab_E w (d + 1) mt_M_twins 7 [.ref mx, .int v1, .int v2, .null] [] (I, L, ab_RR, n, nc, ns) res := by
  refine ab_iload_n (i := 2) d_M_twins_7 rfl rfl ?_
  refine ab_aload_n (i := 0) d_M_twins_8 rfl rfl ?_
  obtain ⟨r1, hC, h⟩ := h
  refine ab_callV (me2 := mt_M_many) (b := mx) (as := []) (st := [.int v2]) (rv := (some (.int r1))) (M2 := (I, L, ab_RR, n, nc, ns)) d_M_twins_9 ce_M_many v_1635 v_1637 v_79 (by decide) rfl (Nat.le_of_ble_eq_true rfl) hC (Nat.le_refl _) (Nat.le_refl _) hc hs (fun j h9 => by cases h9) (fun _ _ => rfl) ?_
  show ab_E w (d + 1) mt_M_twins 12 [.ref mx, .int v1, .int v2, .null] [.int r1, .int v2] (I, L, ab_RR, n, nc, ns) res
  refine ab_icmp_ge (tgt := 50) d_M_twins_12 (by decide) (fun c2 => ?_) (fun c2 => ?_)
  · have h := h.1 c2
    refine ab_aload_n (i := 0) d_M_twins_50 rfl rfl ?_
    obtain ⟨r3, I4, hC, h⟩ := h
    refine ab_callV (me2 := mt_M_netNow) (b := mx) (as := []) (st := []) (rv := (some (.int r3))) (M2 := (I4, L, ab_RR, n, nc, ns)) d_M_twins_51 ce_M_netNow v_1639 v_1641 v_80 (by decide) rfl (Nat.le_of_ble_eq_true rfl) hC (Nat.le_refl _) (Nat.le_refl _) hc hs (fun j h9 => by cases h9) (fun _ _ => rfl) ?_
    show ab_E w (d + 1) mt_M_twins 54 [.ref mx, .int v1, .int v2, .null] [.int r3] (I4, L, ab_RR, n, nc, ns) res
    refine ab_istore_n (i := 2) d_M_twins_54 rfl (by decide) (Or.inr rfl) ?_
    refine ab_iconst (v := 0) d_M_twins_55 rfl ?_
    refine ab_istore_n (i := 3) d_M_twins_56 rfl (by decide) (Or.inr rfl) ?_
    exact h
  · have h := h.2 c2
    refine ab_aload_n (i := 0) d_M_twins_15 rfl rfl ?_
    refine ab_getR (ci := 11) (k := 27) (j := mx_pricesThen) d_M_twins_16 v_1395 rfl (by decide) (by decide) rfl r_mx_27 ?_
    refine ab_iload_n (i := 2) d_M_twins_19 rfl rfl ?_
    refine ab_aload_n (i := 0) d_M_twins_20 rfl rfl ?_
    refine ab_iload_n (i := 2) d_M_twins_21 rfl rfl ?_
    obtain ⟨r5, hC, h⟩ := h
    refine ab_callV (me2 := mt_M_priceOf) (b := mx) (as := [.int v2]) (st := [.int v2, .ref mx_pricesThen]) (rv := (some (.int r5))) (M2 := (I, L, ab_RR, n, nc, ns)) d_M_twins_22 ce_M_priceOf v_1654 v_1656 v_83 (by decide) rfl (Nat.le_of_ble_eq_true rfl) hC (Nat.le_refl _) (Nat.le_refl _) hc hs (fun j h9 => by cases h9) (fun _ _ => rfl) ?_
    show ab_E w (d + 1) mt_M_twins 25 [.ref mx, .int v1, .int v2, .null] [.int r5, .int v2, .ref mx_pricesThen] (I, L, ab_RR, n, nc, ns) res
    have g6 := h.1; have h := h.2
    refine ab_iast d_M_twins_25 rfl rfl g6 ?_
    refine ab_aload_n (i := 0) d_M_twins_26 rfl rfl ?_
    refine ab_getR (ci := 11) (k := 4) (j := mx_now) d_M_twins_27 v_1372 rfl (by decide) (by decide) rfl r_mx_4 ?_
    refine ab_bipush (v := 51) d_M_twins_30 rfl ?_
    refine ab_iload_n (i := 2) d_M_twins_32 rfl rfl ?_
    refine ab_iadd d_M_twins_33 ?_
    refine ab_sipush (v := 1000) d_M_twins_34 rfl ?_
    refine ab_aload_n (i := 0) d_M_twins_37 rfl rfl ?_
    refine ab_iload_n (i := 2) d_M_twins_38 rfl rfl ?_
    obtain ⟨r7, hC, h⟩ := h
    refine ab_callV (me2 := mt_M_priceOf) (b := mx) (as := [.int v2]) (st := [.int 1000, .int (51 + v2), .ref mx_now]) (rv := (some (.int r7))) (M2 := ((ab_up I mx_pricesThen v2.toNatClampNeg r5), L, ab_RR, n, nc, ns)) d_M_twins_39 ce_M_priceOf v_1654 v_1656 v_83 (by decide) rfl (Nat.le_of_ble_eq_true rfl) hC (Nat.le_refl _) (Nat.le_refl _) hc hs (fun j h9 => by cases h9) (fun _ _ => rfl) ?_
    show ab_E w (d + 1) mt_M_twins 42 [.ref mx, .int v1, .int v2, .null] [.int r7, .int 1000, .int (51 + v2), .ref mx_now] ((ab_up I mx_pricesThen v2.toNatClampNeg r5), L, ab_RR, n, nc, ns) res
    refine ab_isub d_M_twins_42 ?_
    have g8 := h.1; have h := h.2
    refine ab_iast d_M_twins_43 rfl rfl g8 ?_
    refine ab_iinc (i := 2) (v := (v2 + 1)) d_M_twins_44 rfl rfl (by decide) (Or.inr rfl) ?_
    refine ab_goto (tgt := 7) d_M_twins_47 (by decide) ?_
    exact h
theorem q_M_twins_57 {w : ab_Wd} {d n nc ns : Nat} {I : Nat → Nat → Int32} {L : Nat → Nat → Int64} {res : ab_Re} (v1 : Int32) (v2 : Int32) (v3 : Int32) (hc : nc ≤ res.2.2.2.2.2.1) (hs : ns ≤ res.2.2.2.2.2.2)
    (h : ∃ (r1 : Int32), ab_C w d mt_M_many [.ref mx] (I, L, ab_RR, n, nc, ns) (.inl (some (.int r1)), (I, L, ab_RR, n, nc, ns)) ∧ ((r1 ≤ v3 → (res = (.inl (some (.int (v1 &&& v2))), (I, L, ab_RR, n, nc, ns)))) ∧ (¬ r1 ≤ v3 → ((vp_in v3 24) ∧ (vp_in (51 + v3) 399) ∧ ab_E w (d + 1) mt_M_twins 57 [.ref mx, .int v1, .int v2, .int (v3 + 1)] [] ((ab_up I mx_now (51 + v3).toNatClampNeg (I mx_pricesThen v3.toNatClampNeg)), L, ab_RR, n, nc, ns) res)))) : ab_E w (d + 1) mt_M_twins 57 [.ref mx, .int v1, .int v2, .int v3] [] (I, L, ab_RR, n, nc, ns) res := by
  refine ab_iload_n (i := 3) d_M_twins_57 rfl rfl ?_
  refine ab_aload_n (i := 0) d_M_twins_58 rfl rfl ?_
  obtain ⟨r1, hC, h⟩ := h
  refine ab_callV (me2 := mt_M_many) (b := mx) (as := []) (st := [.int v3]) (rv := (some (.int r1))) (M2 := (I, L, ab_RR, n, nc, ns)) d_M_twins_59 ce_M_many v_1635 v_1637 v_79 (by decide) rfl (Nat.le_of_ble_eq_true rfl) hC (Nat.le_refl _) (Nat.le_refl _) hc hs (fun j h9 => by cases h9) (fun _ _ => rfl) ?_
  show ab_E w (d + 1) mt_M_twins 62 [.ref mx, .int v1, .int v2, .int v3] [.int r1, .int v3] (I, L, ab_RR, n, nc, ns) res
  refine ab_icmp_ge (tgt := 86) d_M_twins_62 (by decide) (fun c2 => ?_) (fun c2 => ?_)
  · have h := h.1 c2
    refine ab_iload_n (i := 1) d_M_twins_86 rfl rfl ?_
    refine ab_iload_n (i := 2) d_M_twins_87 rfl rfl ?_
    refine ab_iand d_M_twins_88 ?_
    exact ab_iret (ty := .int) d_M_twins_89 rfl rfl h
  · have h := h.2 c2
    refine ab_aload_n (i := 0) d_M_twins_65 rfl rfl ?_
    refine ab_getR (ci := 11) (k := 4) (j := mx_now) d_M_twins_66 v_1372 rfl (by decide) (by decide) rfl r_mx_4 ?_
    refine ab_bipush (v := 51) d_M_twins_69 rfl ?_
    refine ab_iload_n (i := 3) d_M_twins_71 rfl rfl ?_
    refine ab_iadd d_M_twins_72 ?_
    refine ab_aload_n (i := 0) d_M_twins_73 rfl rfl ?_
    refine ab_getR (ci := 11) (k := 27) (j := mx_pricesThen) d_M_twins_74 v_1395 rfl (by decide) (by decide) rfl r_mx_27 ?_
    refine ab_iload_n (i := 3) d_M_twins_77 rfl rfl ?_
    have g3 := h.1; have h := h.2
    refine ab_iald d_M_twins_78 rfl rfl g3 ?_
    have g4 := h.1; have h := h.2
    refine ab_iast d_M_twins_79 rfl rfl g4 ?_
    refine ab_iinc (i := 3) (v := (v3 + 1)) d_M_twins_80 rfl rfl (by decide) (Or.inr rfl) ?_
    refine ab_goto (tgt := 57) d_M_twins_83 (by decide) ?_
    exact h
