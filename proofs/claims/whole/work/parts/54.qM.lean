theorem d_M_happens_0 : decode (ab_bc mt_M_happens) 0 = .ok (.aload_n 0, 1) := by decide +kernel
theorem d_M_happens_1 : decode (ab_bc mt_M_happens) 1 = .ok (.bipush 8, 2) := by decide +kernel
theorem d_M_happens_3 : decode (ab_bc mt_M_happens) 3 = .ok (.invokevirtual 475, 3) := by decide +kernel
theorem d_M_happens_6 : decode (ab_bc mt_M_happens) 6 = .ok (.istore_n 1, 1) := by decide +kernel
theorem d_M_happens_7 : decode (ab_bc mt_M_happens) 7 = .ok (.aload_n 0, 1) := by decide +kernel
theorem d_M_happens_8 : decode (ab_bc mt_M_happens) 8 = .ok (.invokevirtual 234, 3) := by decide +kernel
theorem d_M_happens_11 : decode (ab_bc mt_M_happens) 11 = .ok (.ifCond .ne 4, 3) := by decide +kernel
theorem d_M_happens_14 : decode (ab_bc mt_M_happens) 14 = .ok (.return_, 1) := by decide +kernel
theorem d_M_happens_15 : decode (ab_bc mt_M_happens) 15 = .ok (.aload_n 0, 1) := by decide +kernel
theorem d_M_happens_16 : decode (ab_bc mt_M_happens) 16 = .ok (.aload_n 0, 1) := by decide +kernel
theorem d_M_happens_17 : decode (ab_bc mt_M_happens) 17 = .ok (.invokevirtual 234, 3) := by decide +kernel
theorem d_M_happens_20 : decode (ab_bc mt_M_happens) 20 = .ok (.invokevirtual 475, 3) := by decide +kernel
theorem d_M_happens_23 : decode (ab_bc mt_M_happens) 23 = .ok (.istore_n 2, 1) := by decide +kernel
theorem d_M_happens_24 : decode (ab_bc mt_M_happens) 24 = .ok (.iload_n 1, 1) := by decide +kernel
theorem d_M_happens_25 : decode (ab_bc mt_M_happens) 25 = .ok (.bipush 6, 2) := by decide +kernel
theorem d_M_happens_27 : decode (ab_bc mt_M_happens) 27 = .ok (.if_icmp .ge 36, 3) := by decide +kernel
theorem d_M_happens_30 : decode (ab_bc mt_M_happens) 30 = .ok (.aload_n 0, 1) := by decide +kernel
theorem d_M_happens_31 : decode (ab_bc mt_M_happens) 31 = .ok (.iload_n 2, 1) := by decide +kernel
theorem d_M_happens_32 : decode (ab_bc mt_M_happens) 32 = .ok (.iconst 1, 1) := by decide +kernel
theorem d_M_happens_33 : decode (ab_bc mt_M_happens) 33 = .ok (.sipush 999, 3) := by decide +kernel
theorem d_M_happens_36 : decode (ab_bc mt_M_happens) 36 = .ok (.aload_n 0, 1) := by decide +kernel
theorem d_M_happens_37 : decode (ab_bc mt_M_happens) 37 = .ok (.iload_n 2, 1) := by decide +kernel
theorem d_M_happens_38 : decode (ab_bc mt_M_happens) 38 = .ok (.invokevirtual 222, 3) := by decide +kernel
theorem d_M_happens_41 : decode (ab_bc mt_M_happens) 41 = .ok (.aload_n 0, 1) := by decide +kernel
theorem d_M_happens_42 : decode (ab_bc mt_M_happens) 42 = .ok (.bipush 41, 2) := by decide +kernel
theorem d_M_happens_44 : decode (ab_bc mt_M_happens) 44 = .ok (.invokevirtual 475, 3) := by decide +kernel
theorem d_M_happens_47 : decode (ab_bc mt_M_happens) 47 = .ok (.iadd, 1) := by decide +kernel
theorem d_M_happens_48 : decode (ab_bc mt_M_happens) 48 = .ok (.bipush 20, 2) := by decide +kernel
theorem d_M_happens_50 : decode (ab_bc mt_M_happens) 50 = .ok (.isub, 1) := by decide +kernel
theorem d_M_happens_51 : decode (ab_bc mt_M_happens) 51 = .ok (.invokestatic 141, 3) := by decide +kernel
theorem d_M_happens_54 : decode (ab_bc mt_M_happens) 54 = .ok (.invokestatic 225, 3) := by decide +kernel
theorem d_M_happens_57 : decode (ab_bc mt_M_happens) 57 = .ok (.invokevirtual 440, 3) := by decide +kernel
theorem d_M_happens_60 : decode (ab_bc mt_M_happens) 60 = .ok (.goto 8, 3) := by decide +kernel
theorem d_M_happens_63 : decode (ab_bc mt_M_happens) 63 = .ok (.aload_n 0, 1) := by decide +kernel
theorem d_M_happens_64 : decode (ab_bc mt_M_happens) 64 = .ok (.iload_n 2, 1) := by decide +kernel
theorem d_M_happens_65 : decode (ab_bc mt_M_happens) 65 = .ok (.invokevirtual 446, 3) := by decide +kernel
theorem d_M_happens_68 : decode (ab_bc mt_M_happens) 68 = .ok (.return_, 1) := by decide +kernel
-- CableKeeperModel.happens()V over mx
theorem q_M_happens_0 {w : ab_Wd} {d n nc ns : Nat} {I : Nat → Nat → Int32} {L : Nat → Nat → Int64} {res : ab_Re}  (hc : nc ≤ res.2.2.2.2.2.1) (hs : ns ≤ res.2.2.2.2.2.2)
    (h : ∃ (r1 : Int32) (I2 : Nat → Nat → Int32), ab_C w d mt_M_draw [.ref mx, .int 8] (I, L, ab_RR, n, nc, ns) (.inl (some (.int r1)), (I2, L, ab_RR, n, nc, ns)) ∧ ∃ (r3 : Int32), ab_C w d mt_M_many [.ref mx] (I2, L, ab_RR, n, nc, ns) (.inl (some (.int r3)), (I2, L, ab_RR, n, nc, ns)) ∧ ((¬ r3 = 0 → (∃ (r5 : Int32), ab_C w d mt_M_many [.ref mx] (I2, L, ab_RR, n, nc, ns) (.inl (some (.int r5)), (I2, L, ab_RR, n, nc, ns)) ∧ ∃ (r6 : Int32) (I7 : Nat → Nat → Int32), ab_C w d mt_M_draw [.ref mx, .int r5] (I2, L, ab_RR, n, nc, ns) (.inl (some (.int r6)), (I7, L, ab_RR, n, nc, ns)) ∧ ((6 ≤ r1 → (∃ (I10 : Nat → Nat → Int32), ab_C w d mt_M_turnsNow [.ref mx, .int r6] (I7, L, ab_RR, n, nc, ns) (.inl none, (I10, L, ab_RR, n, nc, ns)) ∧ ab_E w (d + 1) mt_M_happens 68 [.ref mx, .int r1, .int r6] [] (I10, L, ab_RR, n, nc, ns) res)) ∧ (¬ 6 ≤ r1 → (∃ (r11 : Int32), ab_C w d mt_M_priceOf [.ref mx, .int r6] (I7, L, ab_RR, n, nc, ns) (.inl (some (.int r11)), (I7, L, ab_RR, n, nc, ns)) ∧ ∃ (r12 : Int32) (I13 : Nat → Nat → Int32), ab_C w d mt_M_draw [.ref mx, .int 41] (I7, L, ab_RR, n, nc, ns) (.inl (some (.int r12)), (I13, L, ab_RR, n, nc, ns)) ∧ ∃ (I15 : Nat → Nat → Int32), ab_C w d mt_M_pricesNow [.ref mx, .int r6, .int (ab_max32 1 (ab_min32 999 ((r11 + r12) - 20)))] (I13, L, ab_RR, n, nc, ns) (.inl none, (I15, L, ab_RR, n, nc, ns)) ∧ ab_E w (d + 1) mt_M_happens 68 [.ref mx, .int r1, .int r6] [] (I15, L, ab_RR, n, nc, ns) res))))) ∧ (r3 = 0 → (res = (.inl none, (I2, L, ab_RR, n, nc, ns)))))) : ab_E w (d + 1) mt_M_happens 0 [.ref mx, .null, .null] [] (I, L, ab_RR, n, nc, ns) res := by
  refine ab_aload_n (i := 0) d_M_happens_0 rfl rfl ?_
  refine ab_bipush (v := 8) d_M_happens_1 rfl ?_
  obtain ⟨r1, I2, hC, h⟩ := h
  refine ab_callV (me2 := mt_M_draw) (b := mx) (as := [.int 8]) (st := []) (rv := (some (.int r1))) (M2 := (I2, L, ab_RR, n, nc, ns)) d_M_happens_3 ce_M_draw v_1984 v_1986 v_138 (by decide) rfl (Nat.le_of_ble_eq_true rfl) hC (Nat.le_refl _) (Nat.le_refl _) hc hs (fun j h9 => by cases h9) (fun _ _ => rfl) ?_
  show ab_E w (d + 1) mt_M_happens 6 [.ref mx, .null, .null] [.int r1] (I2, L, ab_RR, n, nc, ns) res
  refine ab_istore_n (i := 1) d_M_happens_6 rfl (by decide) (Or.inr rfl) ?_
  refine ab_aload_n (i := 0) d_M_happens_7 rfl rfl ?_
  obtain ⟨r3, hC, h⟩ := h
  refine ab_callV (me2 := mt_M_many) (b := mx) (as := []) (st := []) (rv := (some (.int r3))) (M2 := (I2, L, ab_RR, n, nc, ns)) d_M_happens_8 ce_M_many v_1635 v_1637 v_79 (by decide) rfl (Nat.le_of_ble_eq_true rfl) hC (Nat.le_refl _) (Nat.le_refl _) hc hs (fun j h9 => by cases h9) (fun _ _ => rfl) ?_
  show ab_E w (d + 1) mt_M_happens 11 [.ref mx, .int r1, .null] [.int r3] (I2, L, ab_RR, n, nc, ns) res
  refine ab_if_ne (tgt := 15) d_M_happens_11 (by decide) (fun c4 => ?_) (fun c4 => ?_)
  · have h := h.1 c4
    refine ab_aload_n (i := 0) d_M_happens_15 rfl rfl ?_
    refine ab_aload_n (i := 0) d_M_happens_16 rfl rfl ?_
    obtain ⟨r5, hC, h⟩ := h
    refine ab_callV (me2 := mt_M_many) (b := mx) (as := []) (st := [.ref mx]) (rv := (some (.int r5))) (M2 := (I2, L, ab_RR, n, nc, ns)) d_M_happens_17 ce_M_many v_1635 v_1637 v_79 (by decide) rfl (Nat.le_of_ble_eq_true rfl) hC (Nat.le_refl _) (Nat.le_refl _) hc hs (fun j h9 => by cases h9) (fun _ _ => rfl) ?_
    show ab_E w (d + 1) mt_M_happens 20 [.ref mx, .int r1, .null] [.int r5, .ref mx] (I2, L, ab_RR, n, nc, ns) res
    obtain ⟨r6, I7, hC, h⟩ := h
    refine ab_callV (me2 := mt_M_draw) (b := mx) (as := [.int r5]) (st := []) (rv := (some (.int r6))) (M2 := (I7, L, ab_RR, n, nc, ns)) d_M_happens_20 ce_M_draw v_1984 v_1986 v_138 (by decide) rfl (Nat.le_of_ble_eq_true rfl) hC (Nat.le_refl _) (Nat.le_refl _) hc hs (fun j h9 => by cases h9) (fun _ _ => rfl) ?_
    show ab_E w (d + 1) mt_M_happens 23 [.ref mx, .int r1, .null] [.int r6] (I7, L, ab_RR, n, nc, ns) res
    refine ab_istore_n (i := 2) d_M_happens_23 rfl (by decide) (Or.inr rfl) ?_
    refine ab_iload_n (i := 1) d_M_happens_24 rfl rfl ?_
    refine ab_bipush (v := 6) d_M_happens_25 rfl ?_
    refine ab_icmp_ge (tgt := 63) d_M_happens_27 (by decide) (fun c8 => ?_) (fun c8 => ?_)
    · have h := h.1 c8
      refine ab_aload_n (i := 0) d_M_happens_63 rfl rfl ?_
      refine ab_iload_n (i := 2) d_M_happens_64 rfl rfl ?_
      obtain ⟨I10, hC, h⟩ := h
      refine ab_callV (me2 := mt_M_turnsNow) (b := mx) (as := [.int r6]) (st := []) (rv := none) (M2 := (I10, L, ab_RR, n, nc, ns)) d_M_happens_65 ce_M_turnsNow v_1936 v_1938 v_134 (by decide) rfl (Nat.le_of_ble_eq_true rfl) hC (Nat.le_refl _) (Nat.le_refl _) hc hs (fun j h9 => by cases h9) (fun _ _ => rfl) ?_
      show ab_E w (d + 1) mt_M_happens 68 [.ref mx, .int r1, .int r6] [] (I10, L, ab_RR, n, nc, ns) res
      exact h
    · have h := h.2 c8
      refine ab_aload_n (i := 0) d_M_happens_30 rfl rfl ?_
      refine ab_iload_n (i := 2) d_M_happens_31 rfl rfl ?_
      refine ab_iconst (v := 1) d_M_happens_32 rfl ?_
      refine ab_sipush (v := 999) d_M_happens_33 rfl ?_
      refine ab_aload_n (i := 0) d_M_happens_36 rfl rfl ?_
      refine ab_iload_n (i := 2) d_M_happens_37 rfl rfl ?_
      obtain ⟨r11, hC, h⟩ := h
      refine ab_callV (me2 := mt_M_priceOf) (b := mx) (as := [.int r6]) (st := [.int 999, .int 1, .int r6, .ref mx]) (rv := (some (.int r11))) (M2 := (I7, L, ab_RR, n, nc, ns)) d_M_happens_38 ce_M_priceOf v_1654 v_1656 v_83 (by decide) rfl (Nat.le_of_ble_eq_true rfl) hC (Nat.le_refl _) (Nat.le_refl _) hc hs (fun j h9 => by cases h9) (fun _ _ => rfl) ?_
      show ab_E w (d + 1) mt_M_happens 41 [.ref mx, .int r1, .int r6] [.int r11, .int 999, .int 1, .int r6, .ref mx] (I7, L, ab_RR, n, nc, ns) res
      refine ab_aload_n (i := 0) d_M_happens_41 rfl rfl ?_
      refine ab_bipush (v := 41) d_M_happens_42 rfl ?_
      obtain ⟨r12, I13, hC, h⟩ := h
      refine ab_callV (me2 := mt_M_draw) (b := mx) (as := [.int 41]) (st := [.int r11, .int 999, .int 1, .int r6, .ref mx]) (rv := (some (.int r12))) (M2 := (I13, L, ab_RR, n, nc, ns)) d_M_happens_44 ce_M_draw v_1984 v_1986 v_138 (by decide) rfl (Nat.le_of_ble_eq_true rfl) hC (Nat.le_refl _) (Nat.le_refl _) hc hs (fun j h9 => by cases h9) (fun _ _ => rfl) ?_
      show ab_E w (d + 1) mt_M_happens 47 [.ref mx, .int r1, .int r6] [.int r12, .int r11, .int 999, .int 1, .int r6, .ref mx] (I13, L, ab_RR, n, nc, ns) res
      refine ab_iadd d_M_happens_47 ?_
      refine ab_bipush (v := 20) d_M_happens_48 rfl ?_
      refine ab_isub d_M_happens_50 ?_
      refine ab_min d_M_happens_51 v_1581 v_448 v_150 v_449 (Nat.succ_le_succ (Nat.zero_le _)) (Nat.le_of_ble_eq_true rfl) hc hs ?_
      refine ab_max d_M_happens_54 v_1662 v_451 v_150 v_452 (Nat.succ_le_succ (Nat.zero_le _)) (Nat.le_of_ble_eq_true rfl) hc hs ?_
      obtain ⟨I15, hC, h⟩ := h
      refine ab_callV (me2 := mt_M_pricesNow) (b := mx) (as := [.int r6, .int (ab_max32 1 (ab_min32 999 ((r11 + r12) - 20)))]) (st := []) (rv := none) (M2 := (I15, L, ab_RR, n, nc, ns)) d_M_happens_57 ce_M_pricesNow v_1908 v_1910 v_130 (by decide) rfl (Nat.le_of_ble_eq_true rfl) hC (Nat.le_refl _) (Nat.le_refl _) hc hs (fun j h9 => by cases h9) (fun _ _ => rfl) ?_
      show ab_E w (d + 1) mt_M_happens 60 [.ref mx, .int r1, .int r6] [] (I15, L, ab_RR, n, nc, ns) res
      refine ab_goto (tgt := 68) d_M_happens_60 (by decide) ?_
      exact h
  · have h := h.2 c4
    exact ab_vret d_M_happens_14 rfl h
theorem q_M_happens_68 {w : ab_Wd} {d n nc ns : Nat} {I : Nat → Nat → Int32} {L : Nat → Nat → Int64} {res : ab_Re} (v1 : Int32) (v2 : Int32) (hc : nc ≤ res.2.2.2.2.2.1) (hs : ns ≤ res.2.2.2.2.2.2)
    (h : res = (.inl none, (I, L, ab_RR, n, nc, ns))) : ab_E w (d + 1) mt_M_happens 68 [.ref mx, .int v1, .int v2] [] (I, L, ab_RR, n, nc, ns) res := by
  exact ab_vret d_M_happens_68 rfl h
theorem d_M_years_0 : decode (ab_bc mt_M_years) 0 = .ok (.aload_n 0, 1) := by decide +kernel
theorem d_M_years_1 : decode (ab_bc mt_M_years) 1 = .ok (.iconst 0, 1) := by decide +kernel
theorem d_M_years_2 : decode (ab_bc mt_M_years) 2 = .ok (.putfield 108, 3) := by decide +kernel
theorem d_M_years_5 : decode (ab_bc mt_M_years) 5 = .ok (.iload_n 3, 1) := by decide +kernel
theorem d_M_years_6 : decode (ab_bc mt_M_years) 6 = .ok (.iconst 0, 1) := by decide +kernel
theorem d_M_years_7 : decode (ab_bc mt_M_years) 7 = .ok (.iconst 2, 1) := by decide +kernel
theorem d_M_years_8 : decode (ab_bc mt_M_years) 8 = .ok (.invokestatic 344, 3) := by decide +kernel
theorem d_M_years_11 : decode (ab_bc mt_M_years) 11 = .ok (.ifCond .ne 9, 3) := by decide +kernel
theorem d_M_years_14 : decode (ab_bc mt_M_years) 14 = .ok (.aload_n 0, 1) := by decide +kernel
theorem d_M_years_15 : decode (ab_bc mt_M_years) 15 = .ok (.iconst 1, 1) := by decide +kernel
theorem d_M_years_16 : decode (ab_bc mt_M_years) 16 = .ok (.invokevirtual 202, 3) := by decide +kernel
theorem d_M_years_19 : decode (ab_bc mt_M_years) 19 = .ok (.ireturn, 1) := by decide +kernel
theorem d_M_years_20 : decode (ab_bc mt_M_years) 20 = .ok (.iload_n 2, 1) := by decide +kernel
theorem d_M_years_21 : decode (ab_bc mt_M_years) 21 = .ok (.iconst 0, 1) := by decide +kernel
theorem d_M_years_22 : decode (ab_bc mt_M_years) 22 = .ok (.bipush 60, 2) := by decide +kernel
theorem d_M_years_24 : decode (ab_bc mt_M_years) 24 = .ok (.invokestatic 344, 3) := by decide +kernel
theorem d_M_years_27 : decode (ab_bc mt_M_years) 27 = .ok (.ifCond .ne 9, 3) := by decide +kernel
theorem d_M_years_30 : decode (ab_bc mt_M_years) 30 = .ok (.aload_n 0, 1) := by decide +kernel
theorem d_M_years_31 : decode (ab_bc mt_M_years) 31 = .ok (.iconst 2, 1) := by decide +kernel
theorem d_M_years_32 : decode (ab_bc mt_M_years) 32 = .ok (.invokevirtual 202, 3) := by decide +kernel
theorem d_M_years_35 : decode (ab_bc mt_M_years) 35 = .ok (.ireturn, 1) := by decide +kernel
theorem d_M_years_36 : decode (ab_bc mt_M_years) 36 = .ok (.aload_n 0, 1) := by decide +kernel
theorem d_M_years_37 : decode (ab_bc mt_M_years) 37 = .ok (.getfield 90, 3) := by decide +kernel
theorem d_M_years_40 : decode (ab_bc mt_M_years) 40 = .ok (.aload_n 0, 1) := by decide +kernel
theorem d_M_years_41 : decode (ab_bc mt_M_years) 41 = .ok (.getfield 24, 3) := by decide +kernel
theorem d_M_years_44 : decode (ab_bc mt_M_years) 44 = .ok (.invokestatic 208, 3) := by decide +kernel
theorem d_M_years_47 : decode (ab_bc mt_M_years) 47 = .ok (.aload_n 0, 1) := by decide +kernel
theorem d_M_years_48 : decode (ab_bc mt_M_years) 48 = .ok (.iload_n 1, 1) := by decide +kernel
theorem d_M_years_49 : decode (ab_bc mt_M_years) 49 = .ok (.putfield 471, 3) := by decide +kernel
theorem d_M_years_52 : decode (ab_bc mt_M_years) 52 = .ok (.iconst 0, 1) := by decide +kernel
theorem d_M_years_53 : decode (ab_bc mt_M_years) 53 = .ok (.istore 4, 2) := by decide +kernel
theorem d_M_years_55 : decode (ab_bc mt_M_years) 55 = .ok (.iload 4, 2) := by decide +kernel
theorem d_M_years_57 : decode (ab_bc mt_M_years) 57 = .ok (.iload_n 2, 1) := by decide +kernel
theorem d_M_years_58 : decode (ab_bc mt_M_years) 58 = .ok (.if_icmp .ge 13, 3) := by decide +kernel
theorem d_M_years_61 : decode (ab_bc mt_M_years) 61 = .ok (.aload_n 0, 1) := by decide +kernel
theorem d_M_years_62 : decode (ab_bc mt_M_years) 62 = .ok (.invokevirtual 478, 3) := by decide +kernel
theorem d_M_years_65 : decode (ab_bc mt_M_years) 65 = .ok (.iinc 4 1, 3) := by decide +kernel
theorem d_M_years_68 : decode (ab_bc mt_M_years) 68 = .ok (.goto (-13), 3) := by decide +kernel
theorem d_M_years_71 : decode (ab_bc mt_M_years) 71 = .ok (.iload_n 3, 1) := by decide +kernel
theorem d_M_years_72 : decode (ab_bc mt_M_years) 72 = .ok (.ifCond .ne 10, 3) := by decide +kernel
theorem d_M_years_75 : decode (ab_bc mt_M_years) 75 = .ok (.aload_n 0, 1) := by decide +kernel
theorem d_M_years_76 : decode (ab_bc mt_M_years) 76 = .ok (.invokevirtual 294, 3) := by decide +kernel
theorem d_M_years_79 : decode (ab_bc mt_M_years) 79 = .ok (.goto 28, 3) := by decide +kernel
theorem d_M_years_82 : decode (ab_bc mt_M_years) 82 = .ok (.iload_n 3, 1) := by decide +kernel
theorem d_M_years_83 : decode (ab_bc mt_M_years) 83 = .ok (.iconst 1, 1) := by decide +kernel
theorem d_M_years_84 : decode (ab_bc mt_M_years) 84 = .ok (.if_icmp .ne 19, 3) := by decide +kernel
theorem d_M_years_87 : decode (ab_bc mt_M_years) 87 = .ok (.aload_n 0, 1) := by decide +kernel
theorem d_M_years_88 : decode (ab_bc mt_M_years) 88 = .ok (.getfield 24, 3) := by decide +kernel
theorem d_M_years_91 : decode (ab_bc mt_M_years) 91 = .ok (.iconst 2, 1) := by decide +kernel
theorem d_M_years_92 : decode (ab_bc mt_M_years) 92 = .ok (.iaload, 1) := by decide +kernel
theorem d_M_years_93 : decode (ab_bc mt_M_years) 93 = .ok (.aload_n 0, 1) := by decide +kernel
theorem d_M_years_94 : decode (ab_bc mt_M_years) 94 = .ok (.getfield 90, 3) := by decide +kernel
theorem d_M_years_97 : decode (ab_bc mt_M_years) 97 = .ok (.iconst 2, 1) := by decide +kernel
theorem d_M_years_98 : decode (ab_bc mt_M_years) 98 = .ok (.iaload, 1) := by decide +kernel
theorem d_M_years_99 : decode (ab_bc mt_M_years) 99 = .ok (.isub, 1) := by decide +kernel
theorem d_M_years_100 : decode (ab_bc mt_M_years) 100 = .ok (.goto 7, 3) := by decide +kernel
theorem d_M_years_103 : decode (ab_bc mt_M_years) 103 = .ok (.aload_n 0, 1) := by decide +kernel
theorem d_M_years_104 : decode (ab_bc mt_M_years) 104 = .ok (.invokevirtual 297, 3) := by decide +kernel
theorem d_M_years_107 : decode (ab_bc mt_M_years) 107 = .ok (.istore 4, 2) := by decide +kernel
theorem d_M_years_109 : decode (ab_bc mt_M_years) 109 = .ok (.aload_n 0, 1) := by decide +kernel
theorem d_M_years_110 : decode (ab_bc mt_M_years) 110 = .ok (.getfield 24, 3) := by decide +kernel
theorem d_M_years_113 : decode (ab_bc mt_M_years) 113 = .ok (.aload_n 0, 1) := by decide +kernel
theorem d_M_years_114 : decode (ab_bc mt_M_years) 114 = .ok (.getfield 90, 3) := by decide +kernel
theorem d_M_years_117 : decode (ab_bc mt_M_years) 117 = .ok (.invokestatic 208, 3) := by decide +kernel
theorem d_M_years_120 : decode (ab_bc mt_M_years) 120 = .ok (.iload 4, 2) := by decide +kernel
theorem d_M_years_122 : decode (ab_bc mt_M_years) 122 = .ok (.ireturn, 1) := by decide +kernel
-- CableKeeperModel.years(III)I over mx
theorem q_M_years_0 {w : ab_Wd} {d n nc ns : Nat} {I : Nat → Nat → Int32} {L : Nat → Nat → Int64} {res : ab_Re} (v1 : Int32) (v2 : Int32) (v3 : Int32) (hc : nc ≤ res.2.2.2.2.2.1) (hs : ns ≤ res.2.2.2.2.2.2)
    (h : ∃ (r1 : Int32), ab_C w d mt_M_isIn [.int v3, .int 0, .int 2] ((ab_up I mx 1 0), L, ab_RR, n, nc, ns) (.inl (some (.int r1)), ((ab_up I mx 1 0), L, ab_RR, n, nc, ns)) ∧ ((¬ r1 = 0 → (∃ (r3 : Int32), ab_C w d mt_M_isIn [.int v2, .int 0, .int 60] ((ab_up I mx 1 0), L, ab_RR, n, nc, ns) (.inl (some (.int r3)), ((ab_up I mx 1 0), L, ab_RR, n, nc, ns)) ∧ ((¬ r3 = 0 → (∃ (I6 : Nat → Nat → Int32), ab_C w d mt_M_copyTo [.ref mx_rowThen, .ref mx_now] ((ab_up I mx 1 0), L, ab_RR, n, nc, ns) (.inl none, (I6, L, ab_RR, n, nc, ns)) ∧ ab_E w (d + 1) mt_M_years 55 [.ref mx, .int v1, .int v2, .int v3, .int 0] [] ((ab_up I6 mx 50 v1), L, ab_RR, n, nc, ns) res)) ∧ (r3 = 0 → (∃ (r7 : Int32) (I8 : Nat → Nat → Int32), ab_C w d mt_M_fail [.ref mx, .int 2] ((ab_up I mx 1 0), L, ab_RR, n, nc, ns) (.inl (some (.int r7)), (I8, L, ab_RR, n, nc, ns)) ∧ res = (.inl (some (.int r7)), (I8, L, ab_RR, n, nc, ns))))))) ∧ (r1 = 0 → (∃ (r9 : Int32) (I10 : Nat → Nat → Int32), ab_C w d mt_M_fail [.ref mx, .int 1] ((ab_up I mx 1 0), L, ab_RR, n, nc, ns) (.inl (some (.int r9)), (I10, L, ab_RR, n, nc, ns)) ∧ res = (.inl (some (.int r9)), (I10, L, ab_RR, n, nc, ns)))))) : ab_E w (d + 1) mt_M_years 0 [.ref mx, .int v1, .int v2, .int v3, .null] [] (I, L, ab_RR, n, nc, ns) res := by
  refine ab_aload_n (i := 0) d_M_years_0 rfl rfl ?_
  refine ab_iconst (v := 0) d_M_years_1 rfl ?_
  refine ab_putI (ci := 11) (k := 1) d_M_years_2 v_1369 rfl (by decide) (by decide) rfl (Or.inl rfl) rfl rfl ?_
  refine ab_iload_n (i := 3) d_M_years_5 rfl rfl ?_
  refine ab_iconst (v := 0) d_M_years_6 rfl ?_
  refine ab_iconst (v := 2) d_M_years_7 rfl ?_
  obtain ⟨r1, hC, h⟩ := h
  refine ab_callS (me2 := mt_M_isIn) (as := [.int v3, .int 0, .int 2]) (st := []) (rv := (some (.int r1))) (M2 := ((ab_up I mx 1 0), L, ab_RR, n, nc, ns)) d_M_years_8 ce_M_isIn ⟨v_1753, Or.inl v_1752⟩ (Nat.le_of_ble_eq_true rfl) hC (Nat.le_refl _) (Nat.le_refl _) hc hs (fun j h9 => by cases h9) (fun _ _ => rfl) ?_
  show ab_E w (d + 1) mt_M_years 11 [.ref mx, .int v1, .int v2, .int v3, .null] [.int r1] ((ab_up I mx 1 0), L, ab_RR, n, nc, ns) res
  refine ab_if_ne (tgt := 20) d_M_years_11 (by decide) (fun c2 => ?_) (fun c2 => ?_)
  · have h := h.1 c2
    refine ab_iload_n (i := 2) d_M_years_20 rfl rfl ?_
    refine ab_iconst (v := 0) d_M_years_21 rfl ?_
    refine ab_bipush (v := 60) d_M_years_22 rfl ?_
    obtain ⟨r3, hC, h⟩ := h
    refine ab_callS (me2 := mt_M_isIn) (as := [.int v2, .int 0, .int 60]) (st := []) (rv := (some (.int r3))) (M2 := ((ab_up I mx 1 0), L, ab_RR, n, nc, ns)) d_M_years_24 ce_M_isIn ⟨v_1753, Or.inl v_1752⟩ (Nat.le_of_ble_eq_true rfl) hC (Nat.le_refl _) (Nat.le_refl _) hc hs (fun j h9 => by cases h9) (fun _ _ => rfl) ?_
    show ab_E w (d + 1) mt_M_years 27 [.ref mx, .int v1, .int v2, .int v3, .null] [.int r3] ((ab_up I mx 1 0), L, ab_RR, n, nc, ns) res
    refine ab_if_ne (tgt := 36) d_M_years_27 (by decide) (fun c4 => ?_) (fun c4 => ?_)
    · have h := h.1 c4
      refine ab_aload_n (i := 0) d_M_years_36 rfl rfl ?_
      refine ab_getR (ci := 11) (k := 51) (j := mx_rowThen) d_M_years_37 v_1419 rfl (by decide) (by decide) rfl r_mx_51 ?_
      refine ab_aload_n (i := 0) d_M_years_40 rfl rfl ?_
      refine ab_getR (ci := 11) (k := 4) (j := mx_now) d_M_years_41 v_1372 rfl (by decide) (by decide) rfl r_mx_4 ?_
      obtain ⟨I6, hC, h⟩ := h
      refine ab_callS (me2 := mt_M_copyTo) (as := [.ref mx_rowThen, .ref mx_now]) (st := []) (rv := none) (M2 := (I6, L, ab_RR, n, nc, ns)) d_M_years_44 ce_M_copyTo ⟨v_1625, Or.inl v_1624⟩ (Nat.le_of_ble_eq_true rfl) hC (Nat.le_refl _) (Nat.le_refl _) hc hs (fun j h9 => by cases h9) (fun _ _ => rfl) ?_
      show ab_E w (d + 1) mt_M_years 47 [.ref mx, .int v1, .int v2, .int v3, .null] [] (I6, L, ab_RR, n, nc, ns) res
      refine ab_aload_n (i := 0) d_M_years_47 rfl rfl ?_
      refine ab_iload_n (i := 1) d_M_years_48 rfl rfl ?_
      refine ab_putI (ci := 11) (k := 50) d_M_years_49 v_1418 rfl (by decide) (by decide) rfl (Or.inl rfl) rfl rfl ?_
      refine ab_iconst (v := 0) d_M_years_52 rfl ?_
      refine ab_istore (i := 4) d_M_years_53 (by decide) (Or.inr rfl) ?_
      exact h
    · have h := h.2 c4
      refine ab_aload_n (i := 0) d_M_years_30 rfl rfl ?_
      refine ab_iconst (v := 2) d_M_years_31 rfl ?_
      obtain ⟨r7, I8, hC, h⟩ := h
      refine ab_callV (me2 := mt_M_fail) (b := mx) (as := [.int 2]) (st := []) (rv := (some (.int r7))) (M2 := (I8, L, ab_RR, n, nc, ns)) d_M_years_32 ce_M_fail v_1562 v_1564 v_66 (by decide) rfl (Nat.le_of_ble_eq_true rfl) hC (Nat.le_refl _) (Nat.le_refl _) hc hs (fun j h9 => by cases h9) (fun _ _ => rfl) ?_
      show ab_E w (d + 1) mt_M_years 35 [.ref mx, .int v1, .int v2, .int v3, .null] [.int r7] (I8, L, ab_RR, n, nc, ns) res
      exact ab_iret (ty := .int) d_M_years_35 rfl rfl h
  · have h := h.2 c2
    refine ab_aload_n (i := 0) d_M_years_14 rfl rfl ?_
    refine ab_iconst (v := 1) d_M_years_15 rfl ?_
    obtain ⟨r9, I10, hC, h⟩ := h
    refine ab_callV (me2 := mt_M_fail) (b := mx) (as := [.int 1]) (st := []) (rv := (some (.int r9))) (M2 := (I10, L, ab_RR, n, nc, ns)) d_M_years_16 ce_M_fail v_1562 v_1564 v_66 (by decide) rfl (Nat.le_of_ble_eq_true rfl) hC (Nat.le_refl _) (Nat.le_refl _) hc hs (fun j h9 => by cases h9) (fun _ _ => rfl) ?_
    show ab_E w (d + 1) mt_M_years 19 [.ref mx, .int v1, .int v2, .int v3, .null] [.int r9] (I10, L, ab_RR, n, nc, ns) res
    exact ab_iret (ty := .int) d_M_years_19 rfl rfl h
theorem q_M_years_55 {w : ab_Wd} {d n nc ns : Nat} {I : Nat → Nat → Int32} {L : Nat → Nat → Int64} {res : ab_Re} (v1 : Int32) (v2 : Int32) (v3 : Int32) (v4 : Int32) (hc : nc ≤ res.2.2.2.2.2.1) (hs : ns ≤ res.2.2.2.2.2.2)
    (h : ((v2 ≤ v4 → ((¬ v3 = 0 → ((¬ v3 = 1 → (∃ (r4 : Int32) (I5 : Nat → Nat → Int32), ab_C w d mt_M_piecesNow [.ref mx] (I, L, ab_RR, n, nc, ns) (.inl (some (.int r4)), (I5, L, ab_RR, n, nc, ns)) ∧ ab_E w (d + 1) mt_M_years 107 [.ref mx, .int v1, .int v2, .int v3, .int v4] [.int r4] (I5, L, ab_RR, n, nc, ns) res)) ∧ (v3 = 1 → (ab_E w (d + 1) mt_M_years 107 [.ref mx, .int v1, .int v2, .int v3, .int v4] [.int ((I mx_now 2) - (I mx_rowThen 2))] (I, L, ab_RR, n, nc, ns) res)))) ∧ (v3 = 0 → (∃ (r6 : Int32) (I7 : Nat → Nat → Int32), ab_C w d mt_M_totalNow [.ref mx] (I, L, ab_RR, n, nc, ns) (.inl (some (.int r6)), (I7, L, ab_RR, n, nc, ns)) ∧ ab_E w (d + 1) mt_M_years 107 [.ref mx, .int v1, .int v2, .int v3, .int v4] [.int r6] (I7, L, ab_RR, n, nc, ns) res)))) ∧ (¬ v2 ≤ v4 → (∃ (I9 : Nat → Nat → Int32), ab_C w d mt_M_happens [.ref mx] (I, L, ab_RR, n, nc, ns) (.inl none, (I9, L, ab_RR, n, nc, ns)) ∧ ab_E w (d + 1) mt_M_years 55 [.ref mx, .int v1, .int v2, .int v3, .int (v4 + 1)] [] (I9, L, ab_RR, n, nc, ns) res)))) : ab_E w (d + 1) mt_M_years 55 [.ref mx, .int v1, .int v2, .int v3, .int v4] [] (I, L, ab_RR, n, nc, ns) res := by
  refine ab_iload (i := 4) d_M_years_55 rfl ?_
  refine ab_iload_n (i := 2) d_M_years_57 rfl rfl ?_
  refine ab_icmp_ge (tgt := 71) d_M_years_58 (by decide) (fun c1 => ?_) (fun c1 => ?_)
  · have h := h.1 c1
    refine ab_iload_n (i := 3) d_M_years_71 rfl rfl ?_
    refine ab_if_ne (tgt := 82) d_M_years_72 (by decide) (fun c2 => ?_) (fun c2 => ?_)
    · have h := h.1 c2
      refine ab_iload_n (i := 3) d_M_years_82 rfl rfl ?_
      refine ab_iconst (v := 1) d_M_years_83 rfl ?_
      refine ab_icmp_ne (tgt := 103) d_M_years_84 (by decide) (fun c3 => ?_) (fun c3 => ?_)
      · have h := h.1 c3
        refine ab_aload_n (i := 0) d_M_years_103 rfl rfl ?_
        obtain ⟨r4, I5, hC, h⟩ := h
        refine ab_callV (me2 := mt_M_piecesNow) (b := mx) (as := []) (st := []) (rv := (some (.int r4))) (M2 := (I5, L, ab_RR, n, nc, ns)) d_M_years_104 ce_M_piecesNow v_1667 v_1669 v_86 (by decide) rfl (Nat.le_of_ble_eq_true rfl) hC (Nat.le_refl _) (Nat.le_refl _) hc hs (fun j h9 => by cases h9) (fun _ _ => rfl) ?_
        show ab_E w (d + 1) mt_M_years 107 [.ref mx, .int v1, .int v2, .int v3, .int v4] [.int r4] (I5, L, ab_RR, n, nc, ns) res
        exact h
      · have h := h.2 c3
        refine ab_aload_n (i := 0) d_M_years_87 rfl rfl ?_
        refine ab_getR (ci := 11) (k := 4) (j := mx_now) d_M_years_88 v_1372 rfl (by decide) (by decide) rfl r_mx_4 ?_
        refine ab_iconst (v := 2) d_M_years_91 rfl ?_
        refine ab_iald d_M_years_92 rfl rfl (by unfold vp_in; decide) ?_
        refine ab_aload_n (i := 0) d_M_years_93 rfl rfl ?_
        refine ab_getR (ci := 11) (k := 51) (j := mx_rowThen) d_M_years_94 v_1419 rfl (by decide) (by decide) rfl r_mx_51 ?_
        refine ab_iconst (v := 2) d_M_years_97 rfl ?_
        refine ab_iald d_M_years_98 rfl rfl (by unfold vp_in; decide) ?_
        refine ab_isub d_M_years_99 ?_
        refine ab_goto (tgt := 107) d_M_years_100 (by decide) ?_
        exact h
    · have h := h.2 c2
      refine ab_aload_n (i := 0) d_M_years_75 rfl rfl ?_
      obtain ⟨r6, I7, hC, h⟩ := h
      refine ab_callV (me2 := mt_M_totalNow) (b := mx) (as := []) (st := []) (rv := (some (.int r6))) (M2 := (I7, L, ab_RR, n, nc, ns)) d_M_years_76 ce_M_totalNow v_1663 v_1665 v_85 (by decide) rfl (Nat.le_of_ble_eq_true rfl) hC (Nat.le_refl _) (Nat.le_refl _) hc hs (fun j h9 => by cases h9) (fun _ _ => rfl) ?_
      show ab_E w (d + 1) mt_M_years 79 [.ref mx, .int v1, .int v2, .int v3, .int v4] [.int r6] (I7, L, ab_RR, n, nc, ns) res
      refine ab_goto (tgt := 107) d_M_years_79 (by decide) ?_
      exact h
  · have h := h.2 c1
    refine ab_aload_n (i := 0) d_M_years_61 rfl rfl ?_
    obtain ⟨I9, hC, h⟩ := h
    refine ab_callV (me2 := mt_M_happens) (b := mx) (as := []) (st := []) (rv := none) (M2 := (I9, L, ab_RR, n, nc, ns)) d_M_years_62 ce_M_happens v_1980 v_1982 v_137 (by decide) rfl (Nat.le_of_ble_eq_true rfl) hC (Nat.le_refl _) (Nat.le_refl _) hc hs (fun j h9 => by cases h9) (fun _ _ => rfl) ?_
    show ab_E w (d + 1) mt_M_years 65 [.ref mx, .int v1, .int v2, .int v3, .int v4] [] (I9, L, ab_RR, n, nc, ns) res
    refine ab_iinc (i := 4) (v := (v4 + 1)) d_M_years_65 rfl rfl (by decide) (Or.inr rfl) ?_
    refine ab_goto (tgt := 55) d_M_years_68 (by decide) ?_
    exact h
theorem q_M_years_107 {w : ab_Wd} {d n nc ns : Nat} {I : Nat → Nat → Int32} {L : Nat → Nat → Int64} {res : ab_Re} (v1 : Int32) (v2 : Int32) (v3 : Int32) (v4 : Int32) (s0 : Int32) (hc : nc ≤ res.2.2.2.2.2.1) (hs : ns ≤ res.2.2.2.2.2.2)
    (h : ∃ (I2 : Nat → Nat → Int32), ab_C w d mt_M_copyTo [.ref mx_now, .ref mx_rowThen] (I, L, ab_RR, n, nc, ns) (.inl none, (I2, L, ab_RR, n, nc, ns)) ∧ res = (.inl (some (.int s0)), (I2, L, ab_RR, n, nc, ns))) : ab_E w (d + 1) mt_M_years 107 [.ref mx, .int v1, .int v2, .int v3, .int v4] [.int s0] (I, L, ab_RR, n, nc, ns) res := by
  refine ab_istore (i := 4) d_M_years_107 (by decide) (Or.inr rfl) ?_
  refine ab_aload_n (i := 0) d_M_years_109 rfl rfl ?_
  refine ab_getR (ci := 11) (k := 4) (j := mx_now) d_M_years_110 v_1372 rfl (by decide) (by decide) rfl r_mx_4 ?_
  refine ab_aload_n (i := 0) d_M_years_113 rfl rfl ?_
  refine ab_getR (ci := 11) (k := 51) (j := mx_rowThen) d_M_years_114 v_1419 rfl (by decide) (by decide) rfl r_mx_51 ?_
  obtain ⟨I2, hC, h⟩ := h
  refine ab_callS (me2 := mt_M_copyTo) (as := [.ref mx_now, .ref mx_rowThen]) (st := []) (rv := none) (M2 := (I2, L, ab_RR, n, nc, ns)) d_M_years_117 ce_M_copyTo ⟨v_1625, Or.inl v_1624⟩ (Nat.le_of_ble_eq_true rfl) hC (Nat.le_refl _) (Nat.le_refl _) hc hs (fun j h9 => by cases h9) (fun _ _ => rfl) ?_
  show ab_E w (d + 1) mt_M_years 120 [.ref mx, .int v1, .int v2, .int v3, .int s0] [] (I2, L, ab_RR, n, nc, ns) res
  refine ab_iload (i := 4) d_M_years_120 rfl ?_
  exact ab_iret (ty := .int) d_M_years_122 rfl rfl h
theorem d_M_image_0 : decode (ab_bc mt_M_image) 0 = .ok (.aload_n 0, 1) := by decide +kernel
theorem d_M_image_1 : decode (ab_bc mt_M_image) 1 = .ok (.iconst 0, 1) := by decide +kernel
theorem d_M_image_2 : decode (ab_bc mt_M_image) 2 = .ok (.putfield 108, 3) := by decide +kernel
theorem d_M_image_5 : decode (ab_bc mt_M_image) 5 = .ok (.aload_n 0, 1) := by decide +kernel
theorem d_M_image_6 : decode (ab_bc mt_M_image) 6 = .ok (.iconst 1, 1) := by decide +kernel
theorem d_M_image_7 : decode (ab_bc mt_M_image) 7 = .ok (.putfield 218, 3) := by decide +kernel
theorem d_M_image_10 : decode (ab_bc mt_M_image) 10 = .ok (.aload_n 0, 1) := by decide +kernel
theorem d_M_image_11 : decode (ab_bc mt_M_image) 11 = .ok (.aload_n 0, 1) := by decide +kernel
theorem d_M_image_12 : decode (ab_bc mt_M_image) 12 = .ok (.getfield 212, 3) := by decide +kernel
theorem d_M_image_15 : decode (ab_bc mt_M_image) 15 = .ok (.putfield 481, 3) := by decide +kernel
theorem d_M_image_18 : decode (ab_bc mt_M_image) 18 = .ok (.aload_n 0, 1) := by decide +kernel
theorem d_M_image_19 : decode (ab_bc mt_M_image) 19 = .ok (.aload_n 0, 1) := by decide +kernel
theorem d_M_image_20 : decode (ab_bc mt_M_image) 20 = .ok (.getfield 215, 3) := by decide +kernel
theorem d_M_image_23 : decode (ab_bc mt_M_image) 23 = .ok (.putfield 484, 3) := by decide +kernel
theorem d_M_image_26 : decode (ab_bc mt_M_image) 26 = .ok (.aload_n 0, 1) := by decide +kernel
theorem d_M_image_27 : decode (ab_bc mt_M_image) 27 = .ok (.getfield 93, 3) := by decide +kernel
theorem d_M_image_30 : decode (ab_bc mt_M_image) 30 = .ok (.aload_n 0, 1) := by decide +kernel
theorem d_M_image_31 : decode (ab_bc mt_M_image) 31 = .ok (.getfield 24, 3) := by decide +kernel
theorem d_M_image_34 : decode (ab_bc mt_M_image) 34 = .ok (.invokestatic 208, 3) := by decide +kernel
theorem d_M_image_37 : decode (ab_bc mt_M_image) 37 = .ok (.aload_n 0, 1) := by decide +kernel
theorem d_M_image_38 : decode (ab_bc mt_M_image) 38 = .ok (.getfield 96, 3) := by decide +kernel
theorem d_M_image_41 : decode (ab_bc mt_M_image) 41 = .ok (.aload_n 0, 1) := by decide +kernel
theorem d_M_image_42 : decode (ab_bc mt_M_image) 42 = .ok (.getfield 81, 3) := by decide +kernel
theorem d_M_image_45 : decode (ab_bc mt_M_image) 45 = .ok (.invokestatic 208, 3) := by decide +kernel
theorem d_M_image_48 : decode (ab_bc mt_M_image) 48 = .ok (.aload_n 0, 1) := by decide +kernel
theorem d_M_image_49 : decode (ab_bc mt_M_image) 49 = .ok (.getfield 99, 3) := by decide +kernel
theorem d_M_image_52 : decode (ab_bc mt_M_image) 52 = .ok (.aload_n 0, 1) := by decide +kernel
theorem d_M_image_53 : decode (ab_bc mt_M_image) 53 = .ok (.getfield 84, 3) := by decide +kernel
theorem d_M_image_56 : decode (ab_bc mt_M_image) 56 = .ok (.invokestatic 208, 3) := by decide +kernel
theorem d_M_image_59 : decode (ab_bc mt_M_image) 59 = .ok (.aload_n 0, 1) := by decide +kernel
theorem d_M_image_60 : decode (ab_bc mt_M_image) 60 = .ok (.getfield 102, 3) := by decide +kernel
theorem d_M_image_63 : decode (ab_bc mt_M_image) 63 = .ok (.aload_n 0, 1) := by decide +kernel
theorem d_M_image_64 : decode (ab_bc mt_M_image) 64 = .ok (.getfield 87, 3) := by decide +kernel
theorem d_M_image_67 : decode (ab_bc mt_M_image) 67 = .ok (.invokestatic 208, 3) := by decide +kernel
theorem d_M_image_70 : decode (ab_bc mt_M_image) 70 = .ok (.aload_n 0, 1) := by decide +kernel
theorem d_M_image_71 : decode (ab_bc mt_M_image) 71 = .ok (.getfield 105, 3) := by decide +kernel
theorem d_M_image_74 : decode (ab_bc mt_M_image) 74 = .ok (.aload_n 0, 1) := by decide +kernel
theorem d_M_image_75 : decode (ab_bc mt_M_image) 75 = .ok (.getfield 31, 3) := by decide +kernel
theorem d_M_image_78 : decode (ab_bc mt_M_image) 78 = .ok (.invokestatic 208, 3) := by decide +kernel
theorem d_M_image_81 : decode (ab_bc mt_M_image) 81 = .ok (.return_, 1) := by decide +kernel
-- CableKeeperModel.image()V over mx
theorem q_M_image_0 {w : ab_Wd} {d n nc ns : Nat} {I : Nat → Nat → Int32} {L : Nat → Nat → Int64} {res : ab_Re}  (hc : nc ≤ res.2.2.2.2.2.1) (hs : ns ≤ res.2.2.2.2.2.2)
    (h : ∃ (I2 : Nat → Nat → Int32), ab_C w d mt_M_copyTo [.ref mx_imageRow, .ref mx_now] ((ab_up (ab_up (ab_up (ab_up I mx 1 0) mx 52 1) mx 53 (I mx 41)) mx 54 (I mx 43)), L, ab_RR, n, nc, ns) (.inl none, (I2, L, ab_RR, n, nc, ns)) ∧ ∃ (I4 : Nat → Nat → Int32), ab_C w d mt_M_copyTo [.ref mx_pastThen, .ref mx_past] (I2, L, ab_RR, n, nc, ns) (.inl none, (I4, L, ab_RR, n, nc, ns)) ∧ ∃ (I6 : Nat → Nat → Int32), ab_C w d mt_M_copyTo [.ref mx_notedCableThen, .ref mx_notedCable] (I4, L, ab_RR, n, nc, ns) (.inl none, (I6, L, ab_RR, n, nc, ns)) ∧ ∃ (I8 : Nat → Nat → Int32), ab_C w d mt_M_copyTo [.ref mx_notedInThen, .ref mx_notedIn] (I6, L, ab_RR, n, nc, ns) (.inl none, (I8, L, ab_RR, n, nc, ns)) ∧ ∃ (I10 : Nat → Nat → Int32), ab_C w d mt_M_copyTo [.ref mx_statusThen, .ref mx_status] (I8, L, ab_RR, n, nc, ns) (.inl none, (I10, L, ab_RR, n, nc, ns)) ∧ res = (.inl none, (I10, L, ab_RR, n, nc, ns))) : ab_E w (d + 1) mt_M_image 0 [.ref mx] [] (I, L, ab_RR, n, nc, ns) res := by
  refine ab_aload_n (i := 0) d_M_image_0 rfl rfl ?_
  refine ab_iconst (v := 0) d_M_image_1 rfl ?_
  refine ab_putI (ci := 11) (k := 1) d_M_image_2 v_1369 rfl (by decide) (by decide) rfl (Or.inl rfl) rfl rfl ?_
  refine ab_aload_n (i := 0) d_M_image_5 rfl rfl ?_
  refine ab_iconst (v := 1) d_M_image_6 rfl ?_
  refine ab_putI (ci := 11) (k := 52) d_M_image_7 v_1420 rfl (by decide) (by decide) rfl (Or.inl rfl) rfl rfl ?_
  refine ab_aload_n (i := 0) d_M_image_10 rfl rfl ?_
  refine ab_aload_n (i := 0) d_M_image_11 rfl rfl ?_
  refine ab_getI (ci := 11) (k := 41) d_M_image_12 v_1409 rfl (by decide) (by decide) rfl ?_
  refine ab_putI (ci := 11) (k := 53) d_M_image_15 v_1421 rfl (by decide) (by decide) rfl (Or.inl rfl) rfl rfl ?_
  refine ab_aload_n (i := 0) d_M_image_18 rfl rfl ?_
  refine ab_aload_n (i := 0) d_M_image_19 rfl rfl ?_
  refine ab_getI (ci := 11) (k := 43) d_M_image_20 v_1411 rfl (by decide) (by decide) rfl ?_
  refine ab_putI (ci := 11) (k := 54) d_M_image_23 v_1422 rfl (by decide) (by decide) rfl (Or.inl rfl) rfl rfl ?_
  refine ab_aload_n (i := 0) d_M_image_26 rfl rfl ?_
  refine ab_getR (ci := 11) (k := 55) (j := mx_imageRow) d_M_image_27 v_1423 rfl (by decide) (by decide) rfl r_mx_55 ?_
  refine ab_aload_n (i := 0) d_M_image_30 rfl rfl ?_
  refine ab_getR (ci := 11) (k := 4) (j := mx_now) d_M_image_31 v_1372 rfl (by decide) (by decide) rfl r_mx_4 ?_
  obtain ⟨I2, hC, h⟩ := h
  refine ab_callS (me2 := mt_M_copyTo) (as := [.ref mx_imageRow, .ref mx_now]) (st := []) (rv := none) (M2 := (I2, L, ab_RR, n, nc, ns)) d_M_image_34 ce_M_copyTo ⟨v_1625, Or.inl v_1624⟩ (Nat.le_of_ble_eq_true rfl) hC (Nat.le_refl _) (Nat.le_refl _) hc hs (fun j h9 => by cases h9) (fun _ _ => rfl) ?_
  show ab_E w (d + 1) mt_M_image 37 [.ref mx] [] (I2, L, ab_RR, n, nc, ns) res
  refine ab_aload_n (i := 0) d_M_image_37 rfl rfl ?_
  refine ab_getR (ci := 11) (k := 56) (j := mx_pastThen) d_M_image_38 v_1424 rfl (by decide) (by decide) rfl r_mx_56 ?_
  refine ab_aload_n (i := 0) d_M_image_41 rfl rfl ?_
  refine ab_getR (ci := 11) (k := 42) (j := mx_past) d_M_image_42 v_1410 rfl (by decide) (by decide) rfl r_mx_42 ?_
  obtain ⟨I4, hC, h⟩ := h
  refine ab_callS (me2 := mt_M_copyTo) (as := [.ref mx_pastThen, .ref mx_past]) (st := []) (rv := none) (M2 := (I4, L, ab_RR, n, nc, ns)) d_M_image_45 ce_M_copyTo ⟨v_1625, Or.inl v_1624⟩ (Nat.le_of_ble_eq_true rfl) hC (Nat.le_refl _) (Nat.le_refl _) hc hs (fun j h9 => by cases h9) (fun _ _ => rfl) ?_
  show ab_E w (d + 1) mt_M_image 48 [.ref mx] [] (I4, L, ab_RR, n, nc, ns) res
  refine ab_aload_n (i := 0) d_M_image_48 rfl rfl ?_
  refine ab_getR (ci := 11) (k := 57) (j := mx_notedCableThen) d_M_image_49 v_1425 rfl (by decide) (by decide) rfl r_mx_57 ?_
  refine ab_aload_n (i := 0) d_M_image_52 rfl rfl ?_
  refine ab_getR (ci := 11) (k := 44) (j := mx_notedCable) d_M_image_53 v_1412 rfl (by decide) (by decide) rfl r_mx_44 ?_
  obtain ⟨I6, hC, h⟩ := h
  refine ab_callS (me2 := mt_M_copyTo) (as := [.ref mx_notedCableThen, .ref mx_notedCable]) (st := []) (rv := none) (M2 := (I6, L, ab_RR, n, nc, ns)) d_M_image_56 ce_M_copyTo ⟨v_1625, Or.inl v_1624⟩ (Nat.le_of_ble_eq_true rfl) hC (Nat.le_refl _) (Nat.le_refl _) hc hs (fun j h9 => by cases h9) (fun _ _ => rfl) ?_
  show ab_E w (d + 1) mt_M_image 59 [.ref mx] [] (I6, L, ab_RR, n, nc, ns) res
  refine ab_aload_n (i := 0) d_M_image_59 rfl rfl ?_
  refine ab_getR (ci := 11) (k := 58) (j := mx_notedInThen) d_M_image_60 v_1426 rfl (by decide) (by decide) rfl r_mx_58 ?_
  refine ab_aload_n (i := 0) d_M_image_63 rfl rfl ?_
  refine ab_getR (ci := 11) (k := 45) (j := mx_notedIn) d_M_image_64 v_1413 rfl (by decide) (by decide) rfl r_mx_45 ?_
  obtain ⟨I8, hC, h⟩ := h
  refine ab_callS (me2 := mt_M_copyTo) (as := [.ref mx_notedInThen, .ref mx_notedIn]) (st := []) (rv := none) (M2 := (I8, L, ab_RR, n, nc, ns)) d_M_image_67 ce_M_copyTo ⟨v_1625, Or.inl v_1624⟩ (Nat.le_of_ble_eq_true rfl) hC (Nat.le_refl _) (Nat.le_refl _) hc hs (fun j h9 => by cases h9) (fun _ _ => rfl) ?_
  show ab_E w (d + 1) mt_M_image 70 [.ref mx] [] (I8, L, ab_RR, n, nc, ns) res
  refine ab_aload_n (i := 0) d_M_image_70 rfl rfl ?_
  refine ab_getR (ci := 11) (k := 59) (j := mx_statusThen) d_M_image_71 v_1427 rfl (by decide) (by decide) rfl r_mx_59 ?_
  refine ab_aload_n (i := 0) d_M_image_74 rfl rfl ?_
  refine ab_getR (ci := 11) (k := 6) (j := mx_status) d_M_image_75 v_1374 rfl (by decide) (by decide) rfl r_mx_6 ?_
  obtain ⟨I10, hC, h⟩ := h
  refine ab_callS (me2 := mt_M_copyTo) (as := [.ref mx_statusThen, .ref mx_status]) (st := []) (rv := none) (M2 := (I10, L, ab_RR, n, nc, ns)) d_M_image_78 ce_M_copyTo ⟨v_1625, Or.inl v_1624⟩ (Nat.le_of_ble_eq_true rfl) hC (Nat.le_refl _) (Nat.le_refl _) hc hs (fun j h9 => by cases h9) (fun _ _ => rfl) ?_
  show ab_E w (d + 1) mt_M_image 81 [.ref mx] [] (I10, L, ab_RR, n, nc, ns) res
  exact ab_vret d_M_image_81 rfl h
theorem d_M_restore_0 : decode (ab_bc mt_M_restore) 0 = .ok (.aload_n 0, 1) := by decide +kernel
theorem d_M_restore_1 : decode (ab_bc mt_M_restore) 1 = .ok (.iconst 0, 1) := by decide +kernel
theorem d_M_restore_2 : decode (ab_bc mt_M_restore) 2 = .ok (.putfield 108, 3) := by decide +kernel
theorem d_M_restore_5 : decode (ab_bc mt_M_restore) 5 = .ok (.aload_n 0, 1) := by decide +kernel
theorem d_M_restore_6 : decode (ab_bc mt_M_restore) 6 = .ok (.getfield 218, 3) := by decide +kernel
theorem d_M_restore_9 : decode (ab_bc mt_M_restore) 9 = .ok (.ifCond .ne 5, 3) := by decide +kernel
theorem d_M_restore_12 : decode (ab_bc mt_M_restore) 12 = .ok (.iconst 0, 1) := by decide +kernel
theorem d_M_restore_13 : decode (ab_bc mt_M_restore) 13 = .ok (.ireturn, 1) := by decide +kernel
theorem d_M_restore_14 : decode (ab_bc mt_M_restore) 14 = .ok (.aload_n 0, 1) := by decide +kernel
theorem d_M_restore_15 : decode (ab_bc mt_M_restore) 15 = .ok (.aload_n 0, 1) := by decide +kernel
theorem d_M_restore_16 : decode (ab_bc mt_M_restore) 16 = .ok (.getfield 481, 3) := by decide +kernel
theorem d_M_restore_19 : decode (ab_bc mt_M_restore) 19 = .ok (.putfield 212, 3) := by decide +kernel
theorem d_M_restore_22 : decode (ab_bc mt_M_restore) 22 = .ok (.aload_n 0, 1) := by decide +kernel
theorem d_M_restore_23 : decode (ab_bc mt_M_restore) 23 = .ok (.aload_n 0, 1) := by decide +kernel
theorem d_M_restore_24 : decode (ab_bc mt_M_restore) 24 = .ok (.getfield 484, 3) := by decide +kernel
theorem d_M_restore_27 : decode (ab_bc mt_M_restore) 27 = .ok (.putfield 215, 3) := by decide +kernel
theorem d_M_restore_30 : decode (ab_bc mt_M_restore) 30 = .ok (.aload_n 0, 1) := by decide +kernel
theorem d_M_restore_31 : decode (ab_bc mt_M_restore) 31 = .ok (.getfield 24, 3) := by decide +kernel
theorem d_M_restore_34 : decode (ab_bc mt_M_restore) 34 = .ok (.aload_n 0, 1) := by decide +kernel
theorem d_M_restore_35 : decode (ab_bc mt_M_restore) 35 = .ok (.getfield 93, 3) := by decide +kernel
theorem d_M_restore_38 : decode (ab_bc mt_M_restore) 38 = .ok (.invokestatic 208, 3) := by decide +kernel
theorem d_M_restore_41 : decode (ab_bc mt_M_restore) 41 = .ok (.aload_n 0, 1) := by decide +kernel
theorem d_M_restore_42 : decode (ab_bc mt_M_restore) 42 = .ok (.getfield 81, 3) := by decide +kernel
theorem d_M_restore_45 : decode (ab_bc mt_M_restore) 45 = .ok (.aload_n 0, 1) := by decide +kernel
theorem d_M_restore_46 : decode (ab_bc mt_M_restore) 46 = .ok (.getfield 96, 3) := by decide +kernel
theorem d_M_restore_49 : decode (ab_bc mt_M_restore) 49 = .ok (.invokestatic 208, 3) := by decide +kernel
theorem d_M_restore_52 : decode (ab_bc mt_M_restore) 52 = .ok (.aload_n 0, 1) := by decide +kernel
theorem d_M_restore_53 : decode (ab_bc mt_M_restore) 53 = .ok (.getfield 84, 3) := by decide +kernel
theorem d_M_restore_56 : decode (ab_bc mt_M_restore) 56 = .ok (.aload_n 0, 1) := by decide +kernel
theorem d_M_restore_57 : decode (ab_bc mt_M_restore) 57 = .ok (.getfield 99, 3) := by decide +kernel
theorem d_M_restore_60 : decode (ab_bc mt_M_restore) 60 = .ok (.invokestatic 208, 3) := by decide +kernel
theorem d_M_restore_63 : decode (ab_bc mt_M_restore) 63 = .ok (.aload_n 0, 1) := by decide +kernel
theorem d_M_restore_64 : decode (ab_bc mt_M_restore) 64 = .ok (.getfield 87, 3) := by decide +kernel
theorem d_M_restore_67 : decode (ab_bc mt_M_restore) 67 = .ok (.aload_n 0, 1) := by decide +kernel
theorem d_M_restore_68 : decode (ab_bc mt_M_restore) 68 = .ok (.getfield 102, 3) := by decide +kernel
theorem d_M_restore_71 : decode (ab_bc mt_M_restore) 71 = .ok (.invokestatic 208, 3) := by decide +kernel
theorem d_M_restore_74 : decode (ab_bc mt_M_restore) 74 = .ok (.aload_n 0, 1) := by decide +kernel
theorem d_M_restore_75 : decode (ab_bc mt_M_restore) 75 = .ok (.getfield 31, 3) := by decide +kernel
theorem d_M_restore_78 : decode (ab_bc mt_M_restore) 78 = .ok (.aload_n 0, 1) := by decide +kernel
theorem d_M_restore_79 : decode (ab_bc mt_M_restore) 79 = .ok (.getfield 105, 3) := by decide +kernel
theorem d_M_restore_82 : decode (ab_bc mt_M_restore) 82 = .ok (.invokestatic 208, 3) := by decide +kernel
theorem d_M_restore_85 : decode (ab_bc mt_M_restore) 85 = .ok (.iconst 1, 1) := by decide +kernel
theorem d_M_restore_86 : decode (ab_bc mt_M_restore) 86 = .ok (.ireturn, 1) := by decide +kernel
-- CableKeeperModel.restore()Z over mx
theorem q_M_restore_0 {w : ab_Wd} {d n nc ns : Nat} {I : Nat → Nat → Int32} {L : Nat → Nat → Int64} {res : ab_Re}  (hc : nc ≤ res.2.2.2.2.2.1) (hs : ns ≤ res.2.2.2.2.2.2)
    (h : ((¬ (I mx 52) = 0 → (∃ (I3 : Nat → Nat → Int32), ab_C w d mt_M_copyTo [.ref mx_now, .ref mx_imageRow] ((ab_up (ab_up (ab_up I mx 1 0) mx 41 (I mx 53)) mx 43 (I mx 54)), L, ab_RR, n, nc, ns) (.inl none, (I3, L, ab_RR, n, nc, ns)) ∧ ∃ (I5 : Nat → Nat → Int32), ab_C w d mt_M_copyTo [.ref mx_past, .ref mx_pastThen] (I3, L, ab_RR, n, nc, ns) (.inl none, (I5, L, ab_RR, n, nc, ns)) ∧ ∃ (I7 : Nat → Nat → Int32), ab_C w d mt_M_copyTo [.ref mx_notedCable, .ref mx_notedCableThen] (I5, L, ab_RR, n, nc, ns) (.inl none, (I7, L, ab_RR, n, nc, ns)) ∧ ∃ (I9 : Nat → Nat → Int32), ab_C w d mt_M_copyTo [.ref mx_notedIn, .ref mx_notedInThen] (I7, L, ab_RR, n, nc, ns) (.inl none, (I9, L, ab_RR, n, nc, ns)) ∧ ∃ (I11 : Nat → Nat → Int32), ab_C w d mt_M_copyTo [.ref mx_status, .ref mx_statusThen] (I9, L, ab_RR, n, nc, ns) (.inl none, (I11, L, ab_RR, n, nc, ns)) ∧ res = (.inl (some (.int 1)), (I11, L, ab_RR, n, nc, ns)))) ∧ ((I mx 52) = 0 → (res = (.inl (some (.int 0)), ((ab_up I mx 1 0), L, ab_RR, n, nc, ns)))))) : ab_E w (d + 1) mt_M_restore 0 [.ref mx] [] (I, L, ab_RR, n, nc, ns) res := by
  refine ab_aload_n (i := 0) d_M_restore_0 rfl rfl ?_
  refine ab_iconst (v := 0) d_M_restore_1 rfl ?_
  refine ab_putI (ci := 11) (k := 1) d_M_restore_2 v_1369 rfl (by decide) (by decide) rfl (Or.inl rfl) rfl rfl ?_
  refine ab_aload_n (i := 0) d_M_restore_5 rfl rfl ?_
  refine ab_getI (ci := 11) (k := 52) d_M_restore_6 v_1420 rfl (by decide) (by decide) rfl ?_
  refine ab_if_ne (tgt := 14) d_M_restore_9 (by decide) (fun c1 => ?_) (fun c1 => ?_)
  · have h := h.1 c1
    refine ab_aload_n (i := 0) d_M_restore_14 rfl rfl ?_
    refine ab_aload_n (i := 0) d_M_restore_15 rfl rfl ?_
    refine ab_getI (ci := 11) (k := 53) d_M_restore_16 v_1421 rfl (by decide) (by decide) rfl ?_
    refine ab_putI (ci := 11) (k := 41) d_M_restore_19 v_1409 rfl (by decide) (by decide) rfl (Or.inl rfl) rfl rfl ?_
    refine ab_aload_n (i := 0) d_M_restore_22 rfl rfl ?_
    refine ab_aload_n (i := 0) d_M_restore_23 rfl rfl ?_
    refine ab_getI (ci := 11) (k := 54) d_M_restore_24 v_1422 rfl (by decide) (by decide) rfl ?_
    refine ab_putI (ci := 11) (k := 43) d_M_restore_27 v_1411 rfl (by decide) (by decide) rfl (Or.inl rfl) rfl rfl ?_
    refine ab_aload_n (i := 0) d_M_restore_30 rfl rfl ?_
    refine ab_getR (ci := 11) (k := 4) (j := mx_now) d_M_restore_31 v_1372 rfl (by decide) (by decide) rfl r_mx_4 ?_
    refine ab_aload_n (i := 0) d_M_restore_34 rfl rfl ?_
    refine ab_getR (ci := 11) (k := 55) (j := mx_imageRow) d_M_restore_35 v_1423 rfl (by decide) (by decide) rfl r_mx_55 ?_
    obtain ⟨I3, hC, h⟩ := h
    refine ab_callS (me2 := mt_M_copyTo) (as := [.ref mx_now, .ref mx_imageRow]) (st := []) (rv := none) (M2 := (I3, L, ab_RR, n, nc, ns)) d_M_restore_38 ce_M_copyTo ⟨v_1625, Or.inl v_1624⟩ (Nat.le_of_ble_eq_true rfl) hC (Nat.le_refl _) (Nat.le_refl _) hc hs (fun j h9 => by cases h9) (fun _ _ => rfl) ?_
    show ab_E w (d + 1) mt_M_restore 41 [.ref mx] [] (I3, L, ab_RR, n, nc, ns) res
    refine ab_aload_n (i := 0) d_M_restore_41 rfl rfl ?_
    refine ab_getR (ci := 11) (k := 42) (j := mx_past) d_M_restore_42 v_1410 rfl (by decide) (by decide) rfl r_mx_42 ?_
    refine ab_aload_n (i := 0) d_M_restore_45 rfl rfl ?_
    refine ab_getR (ci := 11) (k := 56) (j := mx_pastThen) d_M_restore_46 v_1424 rfl (by decide) (by decide) rfl r_mx_56 ?_
    obtain ⟨I5, hC, h⟩ := h
    refine ab_callS (me2 := mt_M_copyTo) (as := [.ref mx_past, .ref mx_pastThen]) (st := []) (rv := none) (M2 := (I5, L, ab_RR, n, nc, ns)) d_M_restore_49 ce_M_copyTo ⟨v_1625, Or.inl v_1624⟩ (Nat.le_of_ble_eq_true rfl) hC (Nat.le_refl _) (Nat.le_refl _) hc hs (fun j h9 => by cases h9) (fun _ _ => rfl) ?_
    show ab_E w (d + 1) mt_M_restore 52 [.ref mx] [] (I5, L, ab_RR, n, nc, ns) res
    refine ab_aload_n (i := 0) d_M_restore_52 rfl rfl ?_
    refine ab_getR (ci := 11) (k := 44) (j := mx_notedCable) d_M_restore_53 v_1412 rfl (by decide) (by decide) rfl r_mx_44 ?_
    refine ab_aload_n (i := 0) d_M_restore_56 rfl rfl ?_
    refine ab_getR (ci := 11) (k := 57) (j := mx_notedCableThen) d_M_restore_57 v_1425 rfl (by decide) (by decide) rfl r_mx_57 ?_
    obtain ⟨I7, hC, h⟩ := h
    refine ab_callS (me2 := mt_M_copyTo) (as := [.ref mx_notedCable, .ref mx_notedCableThen]) (st := []) (rv := none) (M2 := (I7, L, ab_RR, n, nc, ns)) d_M_restore_60 ce_M_copyTo ⟨v_1625, Or.inl v_1624⟩ (Nat.le_of_ble_eq_true rfl) hC (Nat.le_refl _) (Nat.le_refl _) hc hs (fun j h9 => by cases h9) (fun _ _ => rfl) ?_
    show ab_E w (d + 1) mt_M_restore 63 [.ref mx] [] (I7, L, ab_RR, n, nc, ns) res
    refine ab_aload_n (i := 0) d_M_restore_63 rfl rfl ?_
    refine ab_getR (ci := 11) (k := 45) (j := mx_notedIn) d_M_restore_64 v_1413 rfl (by decide) (by decide) rfl r_mx_45 ?_
    refine ab_aload_n (i := 0) d_M_restore_67 rfl rfl ?_
    refine ab_getR (ci := 11) (k := 58) (j := mx_notedInThen) d_M_restore_68 v_1426 rfl (by decide) (by decide) rfl r_mx_58 ?_
    obtain ⟨I9, hC, h⟩ := h
    refine ab_callS (me2 := mt_M_copyTo) (as := [.ref mx_notedIn, .ref mx_notedInThen]) (st := []) (rv := none) (M2 := (I9, L, ab_RR, n, nc, ns)) d_M_restore_71 ce_M_copyTo ⟨v_1625, Or.inl v_1624⟩ (Nat.le_of_ble_eq_true rfl) hC (Nat.le_refl _) (Nat.le_refl _) hc hs (fun j h9 => by cases h9) (fun _ _ => rfl) ?_
    show ab_E w (d + 1) mt_M_restore 74 [.ref mx] [] (I9, L, ab_RR, n, nc, ns) res
    refine ab_aload_n (i := 0) d_M_restore_74 rfl rfl ?_
    refine ab_getR (ci := 11) (k := 6) (j := mx_status) d_M_restore_75 v_1374 rfl (by decide) (by decide) rfl r_mx_6 ?_
    refine ab_aload_n (i := 0) d_M_restore_78 rfl rfl ?_
    refine ab_getR (ci := 11) (k := 59) (j := mx_statusThen) d_M_restore_79 v_1427 rfl (by decide) (by decide) rfl r_mx_59 ?_
    obtain ⟨I11, hC, h⟩ := h
    refine ab_callS (me2 := mt_M_copyTo) (as := [.ref mx_status, .ref mx_statusThen]) (st := []) (rv := none) (M2 := (I11, L, ab_RR, n, nc, ns)) d_M_restore_82 ce_M_copyTo ⟨v_1625, Or.inl v_1624⟩ (Nat.le_of_ble_eq_true rfl) hC (Nat.le_refl _) (Nat.le_refl _) hc hs (fun j h9 => by cases h9) (fun _ _ => rfl) ?_
    show ab_E w (d + 1) mt_M_restore 85 [.ref mx] [] (I11, L, ab_RR, n, nc, ns) res
    refine ab_iconst (v := 1) d_M_restore_85 rfl ?_
    exact ab_iret (ty := .boolean) d_M_restore_86 rfl rfl h
  · have h := h.2 c1
    refine ab_iconst (v := 0) d_M_restore_12 rfl ?_
    exact ab_iret (ty := .boolean) d_M_restore_13 rfl rfl h
theorem d_M_isDigit_0 : decode (ab_bc mt_M_isDigit) 0 = .ok (.iload_n 0, 1) := by decide +kernel
theorem d_M_isDigit_1 : decode (ab_bc mt_M_isDigit) 1 = .ok (.bipush 48, 2) := by decide +kernel
theorem d_M_isDigit_3 : decode (ab_bc mt_M_isDigit) 3 = .ok (.if_icmp .lt 13, 3) := by decide +kernel
theorem d_M_isDigit_6 : decode (ab_bc mt_M_isDigit) 6 = .ok (.iload_n 0, 1) := by decide +kernel
theorem d_M_isDigit_7 : decode (ab_bc mt_M_isDigit) 7 = .ok (.bipush 57, 2) := by decide +kernel
theorem d_M_isDigit_9 : decode (ab_bc mt_M_isDigit) 9 = .ok (.if_icmp .gt 7, 3) := by decide +kernel
theorem d_M_isDigit_12 : decode (ab_bc mt_M_isDigit) 12 = .ok (.iconst 1, 1) := by decide +kernel
theorem d_M_isDigit_13 : decode (ab_bc mt_M_isDigit) 13 = .ok (.goto 4, 3) := by decide +kernel
theorem d_M_isDigit_16 : decode (ab_bc mt_M_isDigit) 16 = .ok (.iconst 0, 1) := by decide +kernel
theorem d_M_isDigit_17 : decode (ab_bc mt_M_isDigit) 17 = .ok (.ireturn, 1) := by decide +kernel
-- CableKeeperModel.isDigit(I)Z over 
theorem q_M_isDigit_0 {w : ab_Wd} {d n nc ns : Nat} {I : Nat → Nat → Int32} {L : Nat → Nat → Int64} {res : ab_Re} (v0 : Int32) (hc : nc ≤ res.2.2.2.2.2.1) (hs : ns ≤ res.2.2.2.2.2.2)
    (h : ((v0 < 48 → (ab_E w d mt_M_isDigit 16 [.int v0] [] (I, L, ab_RR, n, nc, ns) res)) ∧ (¬ v0 < 48 → ((57 < v0 → (ab_E w d mt_M_isDigit 16 [.int v0] [] (I, L, ab_RR, n, nc, ns) res)) ∧ (¬ 57 < v0 → (ab_E w d mt_M_isDigit 17 [.int v0] [.int 1] (I, L, ab_RR, n, nc, ns) res)))))) : ab_E w d mt_M_isDigit 0 [.int v0] [] (I, L, ab_RR, n, nc, ns) res := by
  refine ab_iload_n (i := 0) d_M_isDigit_0 rfl rfl ?_
  refine ab_bipush (v := 48) d_M_isDigit_1 rfl ?_
  refine ab_icmp_lt (tgt := 16) d_M_isDigit_3 (by decide) (fun c1 => ?_) (fun c1 => ?_)
  · have h := h.1 c1
    exact h
  · have h := h.2 c1
    refine ab_iload_n (i := 0) d_M_isDigit_6 rfl rfl ?_
    refine ab_bipush (v := 57) d_M_isDigit_7 rfl ?_
    refine ab_icmp_gt (tgt := 16) d_M_isDigit_9 (by decide) (fun c2 => ?_) (fun c2 => ?_)
    · have h := h.1 c2
      exact h
    · have h := h.2 c2
      refine ab_iconst (v := 1) d_M_isDigit_12 rfl ?_
      refine ab_goto (tgt := 17) d_M_isDigit_13 (by decide) ?_
      exact h
theorem q_M_isDigit_16 {w : ab_Wd} {d n nc ns : Nat} {I : Nat → Nat → Int32} {L : Nat → Nat → Int64} {res : ab_Re} (v0 : Int32) (hc : nc ≤ res.2.2.2.2.2.1) (hs : ns ≤ res.2.2.2.2.2.2)
    (h : ab_E w d mt_M_isDigit 17 [.int v0] [.int 0] (I, L, ab_RR, n, nc, ns) res) : ab_E w d mt_M_isDigit 16 [.int v0] [] (I, L, ab_RR, n, nc, ns) res := by
  refine ab_iconst (v := 0) d_M_isDigit_16 rfl ?_
  exact h
theorem q_M_isDigit_17 {w : ab_Wd} {d n nc ns : Nat} {I : Nat → Nat → Int32} {L : Nat → Nat → Int64} {res : ab_Re} (v0 : Int32) (s0 : Int32) (hc : nc ≤ res.2.2.2.2.2.1) (hs : ns ≤ res.2.2.2.2.2.2)
    (h : (narrow .boolean (.int s0) = .int s0) ∧ res = (.inl (some (.int s0)), (I, L, ab_RR, n, nc, ns))) : ab_E w d mt_M_isDigit 17 [.int v0] [.int s0] (I, L, ab_RR, n, nc, ns) res := by
  have g := h.1; have h := h.2
  exact ab_iret (ty := .boolean) d_M_isDigit_17 rfl g h
theorem d_M_isLetter_0 : decode (ab_bc mt_M_isLetter) 0 = .ok (.iload_n 0, 1) := by decide +kernel
theorem d_M_isLetter_1 : decode (ab_bc mt_M_isLetter) 1 = .ok (.bipush 97, 2) := by decide +kernel
theorem d_M_isLetter_3 : decode (ab_bc mt_M_isLetter) 3 = .ok (.if_icmp .lt 13, 3) := by decide +kernel
theorem d_M_isLetter_6 : decode (ab_bc mt_M_isLetter) 6 = .ok (.iload_n 0, 1) := by decide +kernel
theorem d_M_isLetter_7 : decode (ab_bc mt_M_isLetter) 7 = .ok (.bipush 122, 2) := by decide +kernel
theorem d_M_isLetter_9 : decode (ab_bc mt_M_isLetter) 9 = .ok (.if_icmp .gt 7, 3) := by decide +kernel
theorem d_M_isLetter_12 : decode (ab_bc mt_M_isLetter) 12 = .ok (.iconst 1, 1) := by decide +kernel
theorem d_M_isLetter_13 : decode (ab_bc mt_M_isLetter) 13 = .ok (.goto 4, 3) := by decide +kernel
theorem d_M_isLetter_16 : decode (ab_bc mt_M_isLetter) 16 = .ok (.iconst 0, 1) := by decide +kernel
theorem d_M_isLetter_17 : decode (ab_bc mt_M_isLetter) 17 = .ok (.ireturn, 1) := by decide +kernel
-- CableKeeperModel.isLetter(I)Z over 
theorem q_M_isLetter_0 {w : ab_Wd} {d n nc ns : Nat} {I : Nat → Nat → Int32} {L : Nat → Nat → Int64} {res : ab_Re} (v0 : Int32) (hc : nc ≤ res.2.2.2.2.2.1) (hs : ns ≤ res.2.2.2.2.2.2)
    (h : ((v0 < 97 → (ab_E w d mt_M_isLetter 16 [.int v0] [] (I, L, ab_RR, n, nc, ns) res)) ∧ (¬ v0 < 97 → ((122 < v0 → (ab_E w d mt_M_isLetter 16 [.int v0] [] (I, L, ab_RR, n, nc, ns) res)) ∧ (¬ 122 < v0 → (ab_E w d mt_M_isLetter 17 [.int v0] [.int 1] (I, L, ab_RR, n, nc, ns) res)))))) : ab_E w d mt_M_isLetter 0 [.int v0] [] (I, L, ab_RR, n, nc, ns) res := by
  refine ab_iload_n (i := 0) d_M_isLetter_0 rfl rfl ?_
  refine ab_bipush (v := 97) d_M_isLetter_1 rfl ?_
  refine ab_icmp_lt (tgt := 16) d_M_isLetter_3 (by decide) (fun c1 => ?_) (fun c1 => ?_)
  · have h := h.1 c1
    exact h
  · have h := h.2 c1
    refine ab_iload_n (i := 0) d_M_isLetter_6 rfl rfl ?_
    refine ab_bipush (v := 122) d_M_isLetter_7 rfl ?_
    refine ab_icmp_gt (tgt := 16) d_M_isLetter_9 (by decide) (fun c2 => ?_) (fun c2 => ?_)
    · have h := h.1 c2
      exact h
    · have h := h.2 c2
      refine ab_iconst (v := 1) d_M_isLetter_12 rfl ?_
      refine ab_goto (tgt := 17) d_M_isLetter_13 (by decide) ?_
      exact h
theorem q_M_isLetter_16 {w : ab_Wd} {d n nc ns : Nat} {I : Nat → Nat → Int32} {L : Nat → Nat → Int64} {res : ab_Re} (v0 : Int32) (hc : nc ≤ res.2.2.2.2.2.1) (hs : ns ≤ res.2.2.2.2.2.2)
    (h : ab_E w d mt_M_isLetter 17 [.int v0] [.int 0] (I, L, ab_RR, n, nc, ns) res) : ab_E w d mt_M_isLetter 16 [.int v0] [] (I, L, ab_RR, n, nc, ns) res := by
  refine ab_iconst (v := 0) d_M_isLetter_16 rfl ?_
  exact h
theorem q_M_isLetter_17 {w : ab_Wd} {d n nc ns : Nat} {I : Nat → Nat → Int32} {L : Nat → Nat → Int64} {res : ab_Re} (v0 : Int32) (s0 : Int32) (hc : nc ≤ res.2.2.2.2.2.1) (hs : ns ≤ res.2.2.2.2.2.2)
    (h : (narrow .boolean (.int s0) = .int s0) ∧ res = (.inl (some (.int s0)), (I, L, ab_RR, n, nc, ns))) : ab_E w d mt_M_isLetter 17 [.int v0] [.int s0] (I, L, ab_RR, n, nc, ns) res := by
  have g := h.1; have h := h.2
  exact ab_iret (ty := .boolean) d_M_isLetter_17 rfl g h
