theorem d_K_passYear_0 : decode (ab_bc mt_K_passYear) 0 = .ok (.iload_n 1, 1) := by decide +kernel
theorem d_K_passYear_1 : decode (ab_bc mt_K_passYear) 1 = .ok (.invokestatic 450, 3) := by decide +kernel
theorem d_K_passYear_4 : decode (ab_bc mt_K_passYear) 4 = .ok (.istore_n 2, 1) := by decide +kernel
theorem d_K_passYear_5 : decode (ab_bc mt_K_passYear) 5 = .ok (.iload_n 2, 1) := by decide +kernel
theorem d_K_passYear_6 : decode (ab_bc mt_K_passYear) 6 = .ok (.bipush 8, 2) := by decide +kernel
theorem d_K_passYear_8 : decode (ab_bc mt_K_passYear) 8 = .ok (.invokestatic 453, 3) := by decide +kernel
theorem d_K_passYear_11 : decode (ab_bc mt_K_passYear) 11 = .ok (.istore_n 3, 1) := by decide +kernel
theorem d_K_passYear_12 : decode (ab_bc mt_K_passYear) 12 = .ok (.aload_n 0, 1) := by decide +kernel
theorem d_K_passYear_13 : decode (ab_bc mt_K_passYear) 13 = .ok (.getfield 51, 3) := by decide +kernel
theorem d_K_passYear_16 : decode (ab_bc mt_K_passYear) 16 = .ok (.getfield 116, 3) := by decide +kernel
theorem d_K_passYear_19 : decode (ab_bc mt_K_passYear) 19 = .ok (.ifCond .ne 5, 3) := by decide +kernel
theorem d_K_passYear_22 : decode (ab_bc mt_K_passYear) 22 = .ok (.iload_n 2, 1) := by decide +kernel
theorem d_K_passYear_23 : decode (ab_bc mt_K_passYear) 23 = .ok (.ireturn, 1) := by decide +kernel
theorem d_K_passYear_24 : decode (ab_bc mt_K_passYear) 24 = .ok (.iload_n 2, 1) := by decide +kernel
theorem d_K_passYear_25 : decode (ab_bc mt_K_passYear) 25 = .ok (.invokestatic 450, 3) := by decide +kernel
theorem d_K_passYear_28 : decode (ab_bc mt_K_passYear) 28 = .ok (.istore_n 2, 1) := by decide +kernel
theorem d_K_passYear_29 : decode (ab_bc mt_K_passYear) 29 = .ok (.iload_n 2, 1) := by decide +kernel
theorem d_K_passYear_30 : decode (ab_bc mt_K_passYear) 30 = .ok (.aload_n 0, 1) := by decide +kernel
theorem d_K_passYear_31 : decode (ab_bc mt_K_passYear) 31 = .ok (.getfield 51, 3) := by decide +kernel
theorem d_K_passYear_34 : decode (ab_bc mt_K_passYear) 34 = .ok (.getfield 116, 3) := by decide +kernel
theorem d_K_passYear_37 : decode (ab_bc mt_K_passYear) 37 = .ok (.invokestatic 453, 3) := by decide +kernel
theorem d_K_passYear_40 : decode (ab_bc mt_K_passYear) 40 = .ok (.istore 4, 2) := by decide +kernel
theorem d_K_passYear_42 : decode (ab_bc mt_K_passYear) 42 = .ok (.iload_n 3, 1) := by decide +kernel
theorem d_K_passYear_43 : decode (ab_bc mt_K_passYear) 43 = .ok (.iconst 5, 1) := by decide +kernel
theorem d_K_passYear_44 : decode (ab_bc mt_K_passYear) 44 = .ok (.if_icmp .le 22, 3) := by decide +kernel
theorem d_K_passYear_47 : decode (ab_bc mt_K_passYear) 47 = .ok (.aload_n 0, 1) := by decide +kernel
theorem d_K_passYear_48 : decode (ab_bc mt_K_passYear) 48 = .ok (.getfield 51, 3) := by decide +kernel
theorem d_K_passYear_51 : decode (ab_bc mt_K_passYear) 51 = .ok (.dup, 1) := by decide +kernel
theorem d_K_passYear_52 : decode (ab_bc mt_K_passYear) 52 = .ok (.getfield 119, 3) := by decide +kernel
theorem d_K_passYear_55 : decode (ab_bc mt_K_passYear) 55 = .ok (.iconst 1, 1) := by decide +kernel
theorem d_K_passYear_56 : decode (ab_bc mt_K_passYear) 56 = .ok (.iload 4, 2) := by decide +kernel
theorem d_K_passYear_58 : decode (ab_bc mt_K_passYear) 58 = .ok (.ishl, 1) := by decide +kernel
theorem d_K_passYear_59 : decode (ab_bc mt_K_passYear) 59 = .ok (.ixor, 1) := by decide +kernel
theorem d_K_passYear_60 : decode (ab_bc mt_K_passYear) 60 = .ok (.putfield 119, 3) := by decide +kernel
theorem d_K_passYear_63 : decode (ab_bc mt_K_passYear) 63 = .ok (.goto 48, 3) := by decide +kernel
theorem d_K_passYear_66 : decode (ab_bc mt_K_passYear) 66 = .ok (.iload_n 2, 1) := by decide +kernel
theorem d_K_passYear_67 : decode (ab_bc mt_K_passYear) 67 = .ok (.invokestatic 450, 3) := by decide +kernel
theorem d_K_passYear_70 : decode (ab_bc mt_K_passYear) 70 = .ok (.istore_n 2, 1) := by decide +kernel
theorem d_K_passYear_71 : decode (ab_bc mt_K_passYear) 71 = .ok (.aload_n 0, 1) := by decide +kernel
theorem d_K_passYear_72 : decode (ab_bc mt_K_passYear) 72 = .ok (.getfield 51, 3) := by decide +kernel
theorem d_K_passYear_75 : decode (ab_bc mt_K_passYear) 75 = .ok (.getfield 195, 3) := by decide +kernel
theorem d_K_passYear_78 : decode (ab_bc mt_K_passYear) 78 = .ok (.iload 4, 2) := by decide +kernel
theorem d_K_passYear_80 : decode (ab_bc mt_K_passYear) 80 = .ok (.aload_n 0, 1) := by decide +kernel
theorem d_K_passYear_81 : decode (ab_bc mt_K_passYear) 81 = .ok (.getfield 51, 3) := by decide +kernel
theorem d_K_passYear_84 : decode (ab_bc mt_K_passYear) 84 = .ok (.getfield 195, 3) := by decide +kernel
theorem d_K_passYear_87 : decode (ab_bc mt_K_passYear) 87 = .ok (.iload 4, 2) := by decide +kernel
theorem d_K_passYear_89 : decode (ab_bc mt_K_passYear) 89 = .ok (.iaload, 1) := by decide +kernel
theorem d_K_passYear_90 : decode (ab_bc mt_K_passYear) 90 = .ok (.iload_n 2, 1) := by decide +kernel
theorem d_K_passYear_91 : decode (ab_bc mt_K_passYear) 91 = .ok (.bipush 41, 2) := by decide +kernel
theorem d_K_passYear_93 : decode (ab_bc mt_K_passYear) 93 = .ok (.invokestatic 453, 3) := by decide +kernel
theorem d_K_passYear_96 : decode (ab_bc mt_K_passYear) 96 = .ok (.iadd, 1) := by decide +kernel
theorem d_K_passYear_97 : decode (ab_bc mt_K_passYear) 97 = .ok (.bipush 20, 2) := by decide +kernel
theorem d_K_passYear_99 : decode (ab_bc mt_K_passYear) 99 = .ok (.isub, 1) := by decide +kernel
theorem d_K_passYear_100 : decode (ab_bc mt_K_passYear) 100 = .ok (.invokestatic 349, 3) := by decide +kernel
theorem d_K_passYear_103 : decode (ab_bc mt_K_passYear) 103 = .ok (.iastore, 1) := by decide +kernel
theorem d_K_passYear_104 : decode (ab_bc mt_K_passYear) 104 = .ok (.aload_n 0, 1) := by decide +kernel
theorem d_K_passYear_105 : decode (ab_bc mt_K_passYear) 105 = .ok (.getfield 51, 3) := by decide +kernel
theorem d_K_passYear_108 : decode (ab_bc mt_K_passYear) 108 = .ok (.invokevirtual 362, 3) := by decide +kernel
theorem d_K_passYear_111 : decode (ab_bc mt_K_passYear) 111 = .ok (.aload_n 0, 1) := by decide +kernel
theorem d_K_passYear_112 : decode (ab_bc mt_K_passYear) 112 = .ok (.getfield 55, 3) := by decide +kernel
theorem d_K_passYear_115 : decode (ab_bc mt_K_passYear) 115 = .ok (.aload_n 0, 1) := by decide +kernel
theorem d_K_passYear_116 : decode (ab_bc mt_K_passYear) 116 = .ok (.getfield 51, 3) := by decide +kernel
theorem d_K_passYear_119 : decode (ab_bc mt_K_passYear) 119 = .ok (.aload_n 0, 1) := by decide +kernel
theorem d_K_passYear_120 : decode (ab_bc mt_K_passYear) 120 = .ok (.getfield 51, 3) := by decide +kernel
theorem d_K_passYear_123 : decode (ab_bc mt_K_passYear) 123 = .ok (.getfield 119, 3) := by decide +kernel
theorem d_K_passYear_126 : decode (ab_bc mt_K_passYear) 126 = .ok (.invokevirtual 287, 3) := by decide +kernel
theorem d_K_passYear_129 : decode (ab_bc mt_K_passYear) 129 = .ok (.iload_n 2, 1) := by decide +kernel
theorem d_K_passYear_130 : decode (ab_bc mt_K_passYear) 130 = .ok (.ireturn, 1) := by decide +kernel
-- CableKeeper.passYear(I)I over kx
theorem q_K_passYear_0 {w : ab_Wd} {d n nc ns : Nat} {I : Nat → Nat → Int32} {L : Nat → Nat → Int64} {res : ab_Re} (v1 : Int32) (hc : nc ≤ res.2.2.2.2.2.1) (hs : ns ≤ res.2.2.2.2.2.2)
    (h : ∃ (r1 : Int32), ab_C w d mt_K_nextSeed [.int v1] (I, L, ab_RR, n, nc, ns) (.inl (some (.int r1)), (I, L, ab_RR, n, nc, ns)) ∧ ∃ (r2 : Int32), ab_C w d mt_K_draw [.int r1, .int 8] (I, L, ab_RR, n, nc, ns) (.inl (some (.int r2)), (I, L, ab_RR, n, nc, ns)) ∧ ((¬ (I kx_trial 1) = 0 → (∃ (r4 : Int32), ab_C w d mt_K_nextSeed [.int r1] (I, L, ab_RR, n, nc, ns) (.inl (some (.int r4)), (I, L, ab_RR, n, nc, ns)) ∧ ∃ (r5 : Int32), ab_C w d mt_K_draw [.int r4, .int (I kx_trial 1)] (I, L, ab_RR, n, nc, ns) (.inl (some (.int r5)), (I, L, ab_RR, n, nc, ns)) ∧ ((r2 ≤ 5 → (∃ (r7 : Int32), ab_C w d mt_K_nextSeed [.int r4] (I, L, ab_RR, n, nc, ns) (.inl (some (.int r7)), (I, L, ab_RR, n, nc, ns)) ∧ (vp_in r5 24) ∧ ∃ (r9 : Int32), ab_C w d mt_K_draw [.int r7, .int 41] (I, L, ab_RR, n, nc, ns) (.inl (some (.int r9)), (I, L, ab_RR, n, nc, ns)) ∧ ∃ (r10 : Int32), ab_C w d mt_K_asPrice [.int (((I kx_trial_price r5.toNatClampNeg) + r9) - 20)] (I, L, ab_RR, n, nc, ns) (.inl (some (.int r10)), (I, L, ab_RR, n, nc, ns)) ∧ ∃ (I12 : Nat → Nat → Int32), ab_C w d mt_Cables_sort [.ref kx_trial] ((ab_up I kx_trial_price r5.toNatClampNeg r10), L, ab_RR, n, nc, ns) (.inl none, (I12, L, ab_RR, n, nc, ns)) ∧ ab_E w (d + 1) mt_K_passYear 111 [.ref kx, .int v1, .int r7, .int r2, .int r5] [] (I12, L, ab_RR, n, nc, ns) res)) ∧ (¬ r2 ≤ 5 → (ab_E w (d + 1) mt_K_passYear 111 [.ref kx, .int v1, .int r4, .int r2, .int r5] [] ((ab_up I kx_trial 2 ((I kx_trial 2) ^^^ ((1 : Int32) <<< (r5 &&& 31)))), L, ab_RR, n, nc, ns) res))))) ∧ ((I kx_trial 1) = 0 → (res = (.inl (some (.int r1)), (I, L, ab_RR, n, nc, ns)))))) : ab_E w (d + 1) mt_K_passYear 0 [.ref kx, .int v1, .null, .null, .null] [] (I, L, ab_RR, n, nc, ns) res := by
  refine ab_iload_n (i := 1) d_K_passYear_0 rfl rfl ?_
  obtain ⟨r1, hC, h⟩ := h
  refine ab_callS (me2 := mt_K_nextSeed) (as := [.int v1]) (st := []) (rv := (some (.int r1))) (M2 := (I, L, ab_RR, n, nc, ns)) d_K_passYear_1 ce_K_nextSeed ⟨v_1351, Or.inl v_1350⟩ (Nat.le_of_ble_eq_true rfl) hC (Nat.le_refl _) (Nat.le_refl _) hc hs (fun j h9 => by cases h9) (fun _ _ => rfl) ?_
  show ab_E w (d + 1) mt_K_passYear 4 [.ref kx, .int v1, .null, .null, .null] [.int r1] (I, L, ab_RR, n, nc, ns) res
  refine ab_istore_n (i := 2) d_K_passYear_4 rfl (by decide) (Or.inr rfl) ?_
  refine ab_iload_n (i := 2) d_K_passYear_5 rfl rfl ?_
  refine ab_bipush (v := 8) d_K_passYear_6 rfl ?_
  obtain ⟨r2, hC, h⟩ := h
  refine ab_callS (me2 := mt_K_draw) (as := [.int r1, .int 8]) (st := []) (rv := (some (.int r2))) (M2 := (I, L, ab_RR, n, nc, ns)) d_K_passYear_8 ce_K_draw ⟨v_1355, Or.inl v_1354⟩ (Nat.le_of_ble_eq_true rfl) hC (Nat.le_refl _) (Nat.le_refl _) hc hs (fun j h9 => by cases h9) (fun _ _ => rfl) ?_
  show ab_E w (d + 1) mt_K_passYear 11 [.ref kx, .int v1, .int r1, .null, .null] [.int r2] (I, L, ab_RR, n, nc, ns) res
  refine ab_istore_n (i := 3) d_K_passYear_11 rfl (by decide) (Or.inr rfl) ?_
  refine ab_aload_n (i := 0) d_K_passYear_12 rfl rfl ?_
  refine ab_getR (ci := 10) (k := 8) (j := kx_trial) d_K_passYear_13 v_480 rfl (by decide) (by decide) rfl r_kx_8 ?_
  refine ab_getI (ci := 1) (k := 1) d_K_passYear_16 v_199 rfl (by decide) (by decide) rfl ?_
  refine ab_if_ne (tgt := 24) d_K_passYear_19 (by decide) (fun c3 => ?_) (fun c3 => ?_)
  · have h := h.1 c3
    refine ab_iload_n (i := 2) d_K_passYear_24 rfl rfl ?_
    obtain ⟨r4, hC, h⟩ := h
    refine ab_callS (me2 := mt_K_nextSeed) (as := [.int r1]) (st := []) (rv := (some (.int r4))) (M2 := (I, L, ab_RR, n, nc, ns)) d_K_passYear_25 ce_K_nextSeed ⟨v_1351, Or.inl v_1350⟩ (Nat.le_of_ble_eq_true rfl) hC (Nat.le_refl _) (Nat.le_refl _) hc hs (fun j h9 => by cases h9) (fun _ _ => rfl) ?_
    show ab_E w (d + 1) mt_K_passYear 28 [.ref kx, .int v1, .int r1, .int r2, .null] [.int r4] (I, L, ab_RR, n, nc, ns) res
    refine ab_istore_n (i := 2) d_K_passYear_28 rfl (by decide) (Or.inr rfl) ?_
    refine ab_iload_n (i := 2) d_K_passYear_29 rfl rfl ?_
    refine ab_aload_n (i := 0) d_K_passYear_30 rfl rfl ?_
    refine ab_getR (ci := 10) (k := 8) (j := kx_trial) d_K_passYear_31 v_480 rfl (by decide) (by decide) rfl r_kx_8 ?_
    refine ab_getI (ci := 1) (k := 1) d_K_passYear_34 v_199 rfl (by decide) (by decide) rfl ?_
    obtain ⟨r5, hC, h⟩ := h
    refine ab_callS (me2 := mt_K_draw) (as := [.int r4, .int (I kx_trial 1)]) (st := []) (rv := (some (.int r5))) (M2 := (I, L, ab_RR, n, nc, ns)) d_K_passYear_37 ce_K_draw ⟨v_1355, Or.inl v_1354⟩ (Nat.le_of_ble_eq_true rfl) hC (Nat.le_refl _) (Nat.le_refl _) hc hs (fun j h9 => by cases h9) (fun _ _ => rfl) ?_
    show ab_E w (d + 1) mt_K_passYear 40 [.ref kx, .int v1, .int r4, .int r2, .null] [.int r5] (I, L, ab_RR, n, nc, ns) res
    refine ab_istore (i := 4) d_K_passYear_40 (by decide) (Or.inr rfl) ?_
    refine ab_iload_n (i := 3) d_K_passYear_42 rfl rfl ?_
    refine ab_iconst (v := 5) d_K_passYear_43 rfl ?_
    refine ab_icmp_le (tgt := 66) d_K_passYear_44 (by decide) (fun c6 => ?_) (fun c6 => ?_)
    · have h := h.1 c6
      refine ab_iload_n (i := 2) d_K_passYear_66 rfl rfl ?_
      obtain ⟨r7, hC, h⟩ := h
      refine ab_callS (me2 := mt_K_nextSeed) (as := [.int r4]) (st := []) (rv := (some (.int r7))) (M2 := (I, L, ab_RR, n, nc, ns)) d_K_passYear_67 ce_K_nextSeed ⟨v_1351, Or.inl v_1350⟩ (Nat.le_of_ble_eq_true rfl) hC (Nat.le_refl _) (Nat.le_refl _) hc hs (fun j h9 => by cases h9) (fun _ _ => rfl) ?_
      show ab_E w (d + 1) mt_K_passYear 70 [.ref kx, .int v1, .int r4, .int r2, .int r5] [.int r7] (I, L, ab_RR, n, nc, ns) res
      refine ab_istore_n (i := 2) d_K_passYear_70 rfl (by decide) (Or.inr rfl) ?_
      refine ab_aload_n (i := 0) d_K_passYear_71 rfl rfl ?_
      refine ab_getR (ci := 10) (k := 8) (j := kx_trial) d_K_passYear_72 v_480 rfl (by decide) (by decide) rfl r_kx_8 ?_
      refine ab_getR (ci := 1) (k := 5) (j := kx_trial_price) d_K_passYear_75 v_224 rfl (by decide) (by decide) rfl r_kx_trial_5 ?_
      refine ab_iload (i := 4) d_K_passYear_78 rfl ?_
      refine ab_aload_n (i := 0) d_K_passYear_80 rfl rfl ?_
      refine ab_getR (ci := 10) (k := 8) (j := kx_trial) d_K_passYear_81 v_480 rfl (by decide) (by decide) rfl r_kx_8 ?_
      refine ab_getR (ci := 1) (k := 5) (j := kx_trial_price) d_K_passYear_84 v_224 rfl (by decide) (by decide) rfl r_kx_trial_5 ?_
      refine ab_iload (i := 4) d_K_passYear_87 rfl ?_
      have g8 := h.1; have h := h.2
      refine ab_iald d_K_passYear_89 rfl rfl g8 ?_
      refine ab_iload_n (i := 2) d_K_passYear_90 rfl rfl ?_
      refine ab_bipush (v := 41) d_K_passYear_91 rfl ?_
      obtain ⟨r9, hC, h⟩ := h
      refine ab_callS (me2 := mt_K_draw) (as := [.int r7, .int 41]) (st := [.int (I kx_trial_price r5.toNatClampNeg), .int r5, .ref kx_trial_price]) (rv := (some (.int r9))) (M2 := (I, L, ab_RR, n, nc, ns)) d_K_passYear_93 ce_K_draw ⟨v_1355, Or.inl v_1354⟩ (Nat.le_of_ble_eq_true rfl) hC (Nat.le_refl _) (Nat.le_refl _) hc hs (fun j h9 => by cases h9) (fun _ _ => rfl) ?_
      show ab_E w (d + 1) mt_K_passYear 96 [.ref kx, .int v1, .int r7, .int r2, .int r5] [.int r9, .int (I kx_trial_price r5.toNatClampNeg), .int r5, .ref kx_trial_price] (I, L, ab_RR, n, nc, ns) res
      refine ab_iadd d_K_passYear_96 ?_
      refine ab_bipush (v := 20) d_K_passYear_97 rfl ?_
      refine ab_isub d_K_passYear_99 ?_
      obtain ⟨r10, hC, h⟩ := h
      refine ab_callS (me2 := mt_K_asPrice) (as := [.int (((I kx_trial_price r5.toNatClampNeg) + r9) - 20)]) (st := [.int r5, .ref kx_trial_price]) (rv := (some (.int r10))) (M2 := (I, L, ab_RR, n, nc, ns)) d_K_passYear_100 ce_K_asPrice ⟨v_618, Or.inl v_617⟩ (Nat.le_of_ble_eq_true rfl) hC (Nat.le_refl _) (Nat.le_refl _) hc hs (fun j h9 => by cases h9) (fun _ _ => rfl) ?_
      show ab_E w (d + 1) mt_K_passYear 103 [.ref kx, .int v1, .int r7, .int r2, .int r5] [.int r10, .int r5, .ref kx_trial_price] (I, L, ab_RR, n, nc, ns) res
      refine ab_iast d_K_passYear_103 rfl rfl g8 ?_
      refine ab_aload_n (i := 0) d_K_passYear_104 rfl rfl ?_
      refine ab_getR (ci := 10) (k := 8) (j := kx_trial) d_K_passYear_105 v_480 rfl (by decide) (by decide) rfl r_kx_8 ?_
      obtain ⟨I12, hC, h⟩ := h
      refine ab_callV (me2 := mt_Cables_sort) (b := kx_trial) (as := []) (st := []) (rv := none) (M2 := (I12, L, ab_RR, n, nc, ns)) d_K_passYear_108 ce_Cables_sort v_591 v_592 v_593 (by decide) rfl (Nat.le_of_ble_eq_true rfl) hC (Nat.le_refl _) (Nat.le_refl _) hc hs (fun j h9 => by cases h9) (fun _ _ => rfl) ?_
      show ab_E w (d + 1) mt_K_passYear 111 [.ref kx, .int v1, .int r7, .int r2, .int r5] [] (I12, L, ab_RR, n, nc, ns) res
      exact h
    · have h := h.2 c6
      refine ab_aload_n (i := 0) d_K_passYear_47 rfl rfl ?_
      refine ab_getR (ci := 10) (k := 8) (j := kx_trial) d_K_passYear_48 v_480 rfl (by decide) (by decide) rfl r_kx_8 ?_
      refine ab_dupr d_K_passYear_51 ?_
      refine ab_getI (ci := 1) (k := 2) d_K_passYear_52 v_202 rfl (by decide) (by decide) rfl ?_
      refine ab_iconst (v := 1) d_K_passYear_55 rfl ?_
      refine ab_iload (i := 4) d_K_passYear_56 rfl ?_
      refine ab_ishl d_K_passYear_58 ?_
      refine ab_ixor d_K_passYear_59 ?_
      refine ab_putI (ci := 1) (k := 2) d_K_passYear_60 v_202 rfl (by decide) (by decide) rfl (Or.inl rfl) rfl rfl ?_
      refine ab_goto (tgt := 111) d_K_passYear_63 (by decide) ?_
      exact h
  · have h := h.2 c3
    refine ab_iload_n (i := 2) d_K_passYear_22 rfl rfl ?_
    exact ab_iret (ty := .int) d_K_passYear_23 rfl rfl h
theorem q_K_passYear_111 {w : ab_Wd} {d n nc ns : Nat} {I : Nat → Nat → Int32} {L : Nat → Nat → Int64} {res : ab_Re} (v1 : Int32) (v2 : Int32) (v3 : Int32) (v4 : Int32) (hc : nc ≤ res.2.2.2.2.2.1) (hs : ns ≤ res.2.2.2.2.2.2)
    (h : ∃ (I2 : Nat → Nat → Int32), ab_C w d mt_Forest_grow [.ref kx_trialNet, .ref kx_trial, .int (I kx_trial 2)] (I, L, ab_RR, n, nc, ns) (.inl none, (I2, L, ab_RR, n, nc, ns)) ∧ res = (.inl (some (.int v2)), (I2, L, ab_RR, n, nc, ns))) : ab_E w (d + 1) mt_K_passYear 111 [.ref kx, .int v1, .int v2, .int v3, .int v4] [] (I, L, ab_RR, n, nc, ns) res := by
  refine ab_aload_n (i := 0) d_K_passYear_111 rfl rfl ?_
  refine ab_getR (ci := 10) (k := 9) (j := kx_trialNet) d_K_passYear_112 v_481 rfl (by decide) (by decide) rfl r_kx_9 ?_
  refine ab_aload_n (i := 0) d_K_passYear_115 rfl rfl ?_
  refine ab_getR (ci := 10) (k := 8) (j := kx_trial) d_K_passYear_116 v_480 rfl (by decide) (by decide) rfl r_kx_8 ?_
  refine ab_aload_n (i := 0) d_K_passYear_119 rfl rfl ?_
  refine ab_getR (ci := 10) (k := 8) (j := kx_trial) d_K_passYear_120 v_480 rfl (by decide) (by decide) rfl r_kx_8 ?_
  refine ab_getI (ci := 1) (k := 2) d_K_passYear_123 v_202 rfl (by decide) (by decide) rfl ?_
  obtain ⟨I2, hC, h⟩ := h
  refine ab_callV (me2 := mt_Forest_grow) (b := kx_trialNet) (as := [.ref kx_trial, .int (I kx_trial 2)]) (st := []) (rv := none) (M2 := (I2, L, ab_RR, n, nc, ns)) d_K_passYear_126 ce_Forest_grow v_440 v_441 v_442 (by decide) rfl (Nat.le_of_ble_eq_true rfl) hC (Nat.le_refl _) (Nat.le_refl _) hc hs (fun j h9 => by cases h9) (fun _ _ => rfl) ?_
  show ab_E w (d + 1) mt_K_passYear 129 [.ref kx, .int v1, .int v2, .int v3, .int v4] [] (I2, L, ab_RR, n, nc, ns) res
  refine ab_iload_n (i := 2) d_K_passYear_129 rfl rfl ?_
  exact ab_iret (ty := .int) d_K_passYear_130 rfl rfl h
theorem d_K_isFirm_0 : decode (ab_bc mt_K_isFirm) 0 = .ok (.iload_n 0, 1) := by decide +kernel
theorem d_K_isFirm_1 : decode (ab_bc mt_K_isFirm) 1 = .ok (.ifCond .lt 12, 3) := by decide +kernel
theorem d_K_isFirm_4 : decode (ab_bc mt_K_isFirm) 4 = .ok (.iload_n 0, 1) := by decide +kernel
theorem d_K_isFirm_5 : decode (ab_bc mt_K_isFirm) 5 = .ok (.iconst 4, 1) := by decide +kernel
theorem d_K_isFirm_6 : decode (ab_bc mt_K_isFirm) 6 = .ok (.if_icmp .ge 7, 3) := by decide +kernel
theorem d_K_isFirm_9 : decode (ab_bc mt_K_isFirm) 9 = .ok (.iconst 1, 1) := by decide +kernel
theorem d_K_isFirm_10 : decode (ab_bc mt_K_isFirm) 10 = .ok (.goto 4, 3) := by decide +kernel
theorem d_K_isFirm_13 : decode (ab_bc mt_K_isFirm) 13 = .ok (.iconst 0, 1) := by decide +kernel
theorem d_K_isFirm_14 : decode (ab_bc mt_K_isFirm) 14 = .ok (.ireturn, 1) := by decide +kernel
-- CableKeeper.isFirm(I)Z over 
theorem q_K_isFirm_0 {w : ab_Wd} {d n nc ns : Nat} {I : Nat → Nat → Int32} {L : Nat → Nat → Int64} {res : ab_Re} (v0 : Int32) (hc : nc ≤ res.2.2.2.2.2.1) (hs : ns ≤ res.2.2.2.2.2.2)
    (h : ((v0 < 0 → (ab_E w d mt_K_isFirm 13 [.int v0] [] (I, L, ab_RR, n, nc, ns) res)) ∧ (¬ v0 < 0 → ((4 ≤ v0 → (ab_E w d mt_K_isFirm 13 [.int v0] [] (I, L, ab_RR, n, nc, ns) res)) ∧ (¬ 4 ≤ v0 → (ab_E w d mt_K_isFirm 14 [.int v0] [.int 1] (I, L, ab_RR, n, nc, ns) res)))))) : ab_E w d mt_K_isFirm 0 [.int v0] [] (I, L, ab_RR, n, nc, ns) res := by
  refine ab_iload_n (i := 0) d_K_isFirm_0 rfl rfl ?_
  refine ab_if_lt (tgt := 13) d_K_isFirm_1 (by decide) (fun c1 => ?_) (fun c1 => ?_)
  · have h := h.1 c1
    exact h
  · have h := h.2 c1
    refine ab_iload_n (i := 0) d_K_isFirm_4 rfl rfl ?_
    refine ab_iconst (v := 4) d_K_isFirm_5 rfl ?_
    refine ab_icmp_ge (tgt := 13) d_K_isFirm_6 (by decide) (fun c2 => ?_) (fun c2 => ?_)
    · have h := h.1 c2
      exact h
    · have h := h.2 c2
      refine ab_iconst (v := 1) d_K_isFirm_9 rfl ?_
      refine ab_goto (tgt := 14) d_K_isFirm_10 (by decide) ?_
      exact h
theorem q_K_isFirm_13 {w : ab_Wd} {d n nc ns : Nat} {I : Nat → Nat → Int32} {L : Nat → Nat → Int64} {res : ab_Re} (v0 : Int32) (hc : nc ≤ res.2.2.2.2.2.1) (hs : ns ≤ res.2.2.2.2.2.2)
    (h : ab_E w d mt_K_isFirm 14 [.int v0] [.int 0] (I, L, ab_RR, n, nc, ns) res) : ab_E w d mt_K_isFirm 13 [.int v0] [] (I, L, ab_RR, n, nc, ns) res := by
  refine ab_iconst (v := 0) d_K_isFirm_13 rfl ?_
  exact h
theorem q_K_isFirm_14 {w : ab_Wd} {d n nc ns : Nat} {I : Nat → Nat → Int32} {L : Nat → Nat → Int64} {res : ab_Re} (v0 : Int32) (s0 : Int32) (hc : nc ≤ res.2.2.2.2.2.1) (hs : ns ≤ res.2.2.2.2.2.2)
    (h : (narrow .boolean (.int s0) = .int s0) ∧ res = (.inl (some (.int s0)), (I, L, ab_RR, n, nc, ns))) : ab_E w d mt_K_isFirm 14 [.int v0] [.int s0] (I, L, ab_RR, n, nc, ns) res := by
  have g := h.1; have h := h.2
  exact ab_iret (ty := .boolean) d_K_isFirm_14 rfl g h
theorem d_K_isPrice_0 : decode (ab_bc mt_K_isPrice) 0 = .ok (.iload_n 0, 1) := by decide +kernel
theorem d_K_isPrice_1 : decode (ab_bc mt_K_isPrice) 1 = .ok (.iconst 1, 1) := by decide +kernel
theorem d_K_isPrice_2 : decode (ab_bc mt_K_isPrice) 2 = .ok (.if_icmp .lt 14, 3) := by decide +kernel
theorem d_K_isPrice_5 : decode (ab_bc mt_K_isPrice) 5 = .ok (.iload_n 0, 1) := by decide +kernel
theorem d_K_isPrice_6 : decode (ab_bc mt_K_isPrice) 6 = .ok (.sipush 999, 3) := by decide +kernel
theorem d_K_isPrice_9 : decode (ab_bc mt_K_isPrice) 9 = .ok (.if_icmp .gt 7, 3) := by decide +kernel
theorem d_K_isPrice_12 : decode (ab_bc mt_K_isPrice) 12 = .ok (.iconst 1, 1) := by decide +kernel
theorem d_K_isPrice_13 : decode (ab_bc mt_K_isPrice) 13 = .ok (.goto 4, 3) := by decide +kernel
theorem d_K_isPrice_16 : decode (ab_bc mt_K_isPrice) 16 = .ok (.iconst 0, 1) := by decide +kernel
theorem d_K_isPrice_17 : decode (ab_bc mt_K_isPrice) 17 = .ok (.ireturn, 1) := by decide +kernel
-- CableKeeper.isPrice(I)Z over 
theorem q_K_isPrice_0 {w : ab_Wd} {d n nc ns : Nat} {I : Nat → Nat → Int32} {L : Nat → Nat → Int64} {res : ab_Re} (v0 : Int32) (hc : nc ≤ res.2.2.2.2.2.1) (hs : ns ≤ res.2.2.2.2.2.2)
    (h : ((v0 < 1 → (ab_E w d mt_K_isPrice 16 [.int v0] [] (I, L, ab_RR, n, nc, ns) res)) ∧ (¬ v0 < 1 → ((999 < v0 → (ab_E w d mt_K_isPrice 16 [.int v0] [] (I, L, ab_RR, n, nc, ns) res)) ∧ (¬ 999 < v0 → (ab_E w d mt_K_isPrice 17 [.int v0] [.int 1] (I, L, ab_RR, n, nc, ns) res)))))) : ab_E w d mt_K_isPrice 0 [.int v0] [] (I, L, ab_RR, n, nc, ns) res := by
  refine ab_iload_n (i := 0) d_K_isPrice_0 rfl rfl ?_
  refine ab_iconst (v := 1) d_K_isPrice_1 rfl ?_
  refine ab_icmp_lt (tgt := 16) d_K_isPrice_2 (by decide) (fun c1 => ?_) (fun c1 => ?_)
  · have h := h.1 c1
    exact h
  · have h := h.2 c1
    refine ab_iload_n (i := 0) d_K_isPrice_5 rfl rfl ?_
    refine ab_sipush (v := 999) d_K_isPrice_6 rfl ?_
    refine ab_icmp_gt (tgt := 16) d_K_isPrice_9 (by decide) (fun c2 => ?_) (fun c2 => ?_)
    · have h := h.1 c2
      exact h
    · have h := h.2 c2
      refine ab_iconst (v := 1) d_K_isPrice_12 rfl ?_
      refine ab_goto (tgt := 17) d_K_isPrice_13 (by decide) ?_
      exact h
theorem q_K_isPrice_16 {w : ab_Wd} {d n nc ns : Nat} {I : Nat → Nat → Int32} {L : Nat → Nat → Int64} {res : ab_Re} (v0 : Int32) (hc : nc ≤ res.2.2.2.2.2.1) (hs : ns ≤ res.2.2.2.2.2.2)
    (h : ab_E w d mt_K_isPrice 17 [.int v0] [.int 0] (I, L, ab_RR, n, nc, ns) res) : ab_E w d mt_K_isPrice 16 [.int v0] [] (I, L, ab_RR, n, nc, ns) res := by
  refine ab_iconst (v := 0) d_K_isPrice_16 rfl ?_
  exact h
theorem q_K_isPrice_17 {w : ab_Wd} {d n nc ns : Nat} {I : Nat → Nat → Int32} {L : Nat → Nat → Int64} {res : ab_Re} (v0 : Int32) (s0 : Int32) (hc : nc ≤ res.2.2.2.2.2.1) (hs : ns ≤ res.2.2.2.2.2.2)
    (h : (narrow .boolean (.int s0) = .int s0) ∧ res = (.inl (some (.int s0)), (I, L, ab_RR, n, nc, ns))) : ab_E w d mt_K_isPrice 17 [.int v0] [.int s0] (I, L, ab_RR, n, nc, ns) res := by
  have g := h.1; have h := h.2
  exact ab_iret (ty := .boolean) d_K_isPrice_17 rfl g h
theorem d_K_asPrice_0 : decode (ab_bc mt_K_asPrice) 0 = .ok (.iconst 1, 1) := by decide +kernel
theorem d_K_asPrice_1 : decode (ab_bc mt_K_asPrice) 1 = .ok (.sipush 999, 3) := by decide +kernel
theorem d_K_asPrice_4 : decode (ab_bc mt_K_asPrice) 4 = .ok (.iload_n 0, 1) := by decide +kernel
theorem d_K_asPrice_5 : decode (ab_bc mt_K_asPrice) 5 = .ok (.invokestatic 279, 3) := by decide +kernel
theorem d_K_asPrice_8 : decode (ab_bc mt_K_asPrice) 8 = .ok (.invokestatic 378, 3) := by decide +kernel
theorem d_K_asPrice_11 : decode (ab_bc mt_K_asPrice) 11 = .ok (.ireturn, 1) := by decide +kernel
-- CableKeeper.asPrice(I)I over 
theorem q_K_asPrice_0 {w : ab_Wd} {d n nc ns : Nat} {I : Nat → Nat → Int32} {L : Nat → Nat → Int64} {res : ab_Re} (v0 : Int32) (hc : nc ≤ res.2.2.2.2.2.1) (hs : ns ≤ res.2.2.2.2.2.2)
    (h : res = (.inl (some (.int (ab_max32 1 (ab_min32 999 v0)))), (I, L, ab_RR, n, nc, ns))) : ab_E w (d + 1) mt_K_asPrice 0 [.int v0] [] (I, L, ab_RR, n, nc, ns) res := by
  refine ab_iconst (v := 1) d_K_asPrice_0 rfl ?_
  refine ab_sipush (v := 999) d_K_asPrice_1 rfl ?_
  refine ab_iload_n (i := 0) d_K_asPrice_4 rfl rfl ?_
  refine ab_min d_K_asPrice_5 v_447 v_448 v_150 v_449 (Nat.succ_le_succ (Nat.zero_le _)) (Nat.le_of_ble_eq_true rfl) hc hs ?_
  refine ab_max d_K_asPrice_8 v_450 v_451 v_150 v_452 (Nat.succ_le_succ (Nat.zero_le _)) (Nat.le_of_ble_eq_true rfl) hc hs ?_
  exact ab_iret (ty := .int) d_K_asPrice_11 rfl rfl h
theorem d_K_lowestOf_0 : decode (ab_bc mt_K_lowestOf) 0 = .ok (.iconst 0, 1) := by decide +kernel
theorem d_K_lowestOf_1 : decode (ab_bc mt_K_lowestOf) 1 = .ok (.istore_n 1, 1) := by decide +kernel
theorem d_K_lowestOf_2 : decode (ab_bc mt_K_lowestOf) 2 = .ok (.iload_n 1, 1) := by decide +kernel
theorem d_K_lowestOf_3 : decode (ab_bc mt_K_lowestOf) 3 = .ok (.bipush 24, 2) := by decide +kernel
theorem d_K_lowestOf_5 : decode (ab_bc mt_K_lowestOf) 5 = .ok (.if_icmp .ge 20, 3) := by decide +kernel
theorem d_K_lowestOf_8 : decode (ab_bc mt_K_lowestOf) 8 = .ok (.iload_n 0, 1) := by decide +kernel
theorem d_K_lowestOf_9 : decode (ab_bc mt_K_lowestOf) 9 = .ok (.iload_n 1, 1) := by decide +kernel
theorem d_K_lowestOf_10 : decode (ab_bc mt_K_lowestOf) 10 = .ok (.ishr, 1) := by decide +kernel
theorem d_K_lowestOf_11 : decode (ab_bc mt_K_lowestOf) 11 = .ok (.iconst 1, 1) := by decide +kernel
theorem d_K_lowestOf_12 : decode (ab_bc mt_K_lowestOf) 12 = .ok (.iand, 1) := by decide +kernel
theorem d_K_lowestOf_13 : decode (ab_bc mt_K_lowestOf) 13 = .ok (.iconst 1, 1) := by decide +kernel
theorem d_K_lowestOf_14 : decode (ab_bc mt_K_lowestOf) 14 = .ok (.if_icmp .ne 5, 3) := by decide +kernel
theorem d_K_lowestOf_17 : decode (ab_bc mt_K_lowestOf) 17 = .ok (.iload_n 1, 1) := by decide +kernel
theorem d_K_lowestOf_18 : decode (ab_bc mt_K_lowestOf) 18 = .ok (.ireturn, 1) := by decide +kernel
theorem d_K_lowestOf_19 : decode (ab_bc mt_K_lowestOf) 19 = .ok (.iinc 1 1, 3) := by decide +kernel
theorem d_K_lowestOf_22 : decode (ab_bc mt_K_lowestOf) 22 = .ok (.goto (-20), 3) := by decide +kernel
theorem d_K_lowestOf_25 : decode (ab_bc mt_K_lowestOf) 25 = .ok (.iconst (-1), 1) := by decide +kernel
theorem d_K_lowestOf_26 : decode (ab_bc mt_K_lowestOf) 26 = .ok (.ireturn, 1) := by decide +kernel
-- CableKeeper.lowestOf(I)I over 
theorem q_K_lowestOf_0 {w : ab_Wd} {d n nc ns : Nat} {I : Nat → Nat → Int32} {L : Nat → Nat → Int64} {res : ab_Re} (v0 : Int32) (hc : nc ≤ res.2.2.2.2.2.1) (hs : ns ≤ res.2.2.2.2.2.2)
    (h : ab_E w d mt_K_lowestOf 2 [.int v0, .int 0] [] (I, L, ab_RR, n, nc, ns) res) : ab_E w d mt_K_lowestOf 0 [.int v0, .null] [] (I, L, ab_RR, n, nc, ns) res := by
  refine ab_iconst (v := 0) d_K_lowestOf_0 rfl ?_
  refine ab_istore_n (i := 1) d_K_lowestOf_1 rfl (by decide) (Or.inr rfl) ?_
  exact h
theorem q_K_lowestOf_2 {w : ab_Wd} {d n nc ns : Nat} {I : Nat → Nat → Int32} {L : Nat → Nat → Int64} {res : ab_Re} (v0 : Int32) (v1 : Int32) (hc : nc ≤ res.2.2.2.2.2.1) (hs : ns ≤ res.2.2.2.2.2.2)
    (h : ((24 ≤ v1 → (res = (.inl (some (.int (-1))), (I, L, ab_RR, n, nc, ns)))) ∧ (¬ 24 ≤ v1 → ((¬ ((v0 >>> (v1 &&& 31)) &&& 1) = 1 → (ab_E w d mt_K_lowestOf 2 [.int v0, .int (v1 + 1)] [] (I, L, ab_RR, n, nc, ns) res)) ∧ (((v0 >>> (v1 &&& 31)) &&& 1) = 1 → (res = (.inl (some (.int v1)), (I, L, ab_RR, n, nc, ns)))))))) : ab_E w d mt_K_lowestOf 2 [.int v0, .int v1] [] (I, L, ab_RR, n, nc, ns) res := by
  refine ab_iload_n (i := 1) d_K_lowestOf_2 rfl rfl ?_
  refine ab_bipush (v := 24) d_K_lowestOf_3 rfl ?_
  refine ab_icmp_ge (tgt := 25) d_K_lowestOf_5 (by decide) (fun c1 => ?_) (fun c1 => ?_)
  · have h := h.1 c1
    refine ab_iconst (v := (-1)) d_K_lowestOf_25 rfl ?_
    exact ab_iret (ty := .int) d_K_lowestOf_26 rfl rfl h
  · have h := h.2 c1
    refine ab_iload_n (i := 0) d_K_lowestOf_8 rfl rfl ?_
    refine ab_iload_n (i := 1) d_K_lowestOf_9 rfl rfl ?_
    refine ab_ishr d_K_lowestOf_10 ?_
    refine ab_iconst (v := 1) d_K_lowestOf_11 rfl ?_
    refine ab_iand d_K_lowestOf_12 ?_
    refine ab_iconst (v := 1) d_K_lowestOf_13 rfl ?_
    refine ab_icmp_ne (tgt := 19) d_K_lowestOf_14 (by decide) (fun c2 => ?_) (fun c2 => ?_)
    · have h := h.1 c2
      refine ab_iinc (i := 1) (v := (v1 + 1)) d_K_lowestOf_19 rfl rfl (by decide) (Or.inr rfl) ?_
      refine ab_goto (tgt := 2) d_K_lowestOf_22 (by decide) ?_
      exact h
    · have h := h.2 c2
      refine ab_iload_n (i := 1) d_K_lowestOf_17 rfl rfl ?_
      exact ab_iret (ty := .int) d_K_lowestOf_18 rfl rfl h
theorem d_K_draw_0 : decode (ab_bc mt_K_draw) 0 = .ok (.iload_n 1, 1) := by decide +kernel
theorem d_K_draw_1 : decode (ab_bc mt_K_draw) 1 = .ok (.iconst 1, 1) := by decide +kernel
theorem d_K_draw_2 : decode (ab_bc mt_K_draw) 2 = .ok (.if_icmp .ge 7, 3) := by decide +kernel
theorem d_K_draw_5 : decode (ab_bc mt_K_draw) 5 = .ok (.iconst 0, 1) := by decide +kernel
theorem d_K_draw_6 : decode (ab_bc mt_K_draw) 6 = .ok (.goto 13, 3) := by decide +kernel
theorem d_K_draw_9 : decode (ab_bc mt_K_draw) 9 = .ok (.iload_n 0, 1) := by decide +kernel
theorem d_K_draw_10 : decode (ab_bc mt_K_draw) 10 = .ok (.bipush 16, 2) := by decide +kernel
theorem d_K_draw_12 : decode (ab_bc mt_K_draw) 12 = .ok (.iushr, 1) := by decide +kernel
theorem d_K_draw_13 : decode (ab_bc mt_K_draw) 13 = .ok (.sipush 32767, 3) := by decide +kernel
theorem d_K_draw_16 : decode (ab_bc mt_K_draw) 16 = .ok (.iand, 1) := by decide +kernel
theorem d_K_draw_17 : decode (ab_bc mt_K_draw) 17 = .ok (.iload_n 1, 1) := by decide +kernel
theorem d_K_draw_18 : decode (ab_bc mt_K_draw) 18 = .ok (.irem, 1) := by decide +kernel
theorem d_K_draw_19 : decode (ab_bc mt_K_draw) 19 = .ok (.ireturn, 1) := by decide +kernel
-- CableKeeper.draw(II)I over 
theorem q_K_draw_0 {w : ab_Wd} {d n nc ns : Nat} {I : Nat → Nat → Int32} {L : Nat → Nat → Int64} {res : ab_Re} (v0 : Int32) (v1 : Int32) (hc : nc ≤ res.2.2.2.2.2.1) (hs : ns ≤ res.2.2.2.2.2.2)
    (h : ((1 ≤ v1 → ((¬ v1 = 0) ∧ ab_E w d mt_K_draw 19 [.int v0, .int v1] [.int (((ab_ushr v0 16) &&& 32767) - ((ab_ushr v0 16) &&& 32767) / v1 * v1)] (I, L, ab_RR, n, nc, ns) res)) ∧ (¬ 1 ≤ v1 → (ab_E w d mt_K_draw 19 [.int v0, .int v1] [.int 0] (I, L, ab_RR, n, nc, ns) res)))) : ab_E w d mt_K_draw 0 [.int v0, .int v1] [] (I, L, ab_RR, n, nc, ns) res := by
  refine ab_iload_n (i := 1) d_K_draw_0 rfl rfl ?_
  refine ab_iconst (v := 1) d_K_draw_1 rfl ?_
  refine ab_icmp_ge (tgt := 9) d_K_draw_2 (by decide) (fun c1 => ?_) (fun c1 => ?_)
  · have h := h.1 c1
    refine ab_iload_n (i := 0) d_K_draw_9 rfl rfl ?_
    refine ab_bipush (v := 16) d_K_draw_10 rfl ?_
    refine ab_iushr (v := (ab_ushr v0 16)) d_K_draw_12 rfl ?_
    refine ab_sipush (v := 32767) d_K_draw_13 rfl ?_
    refine ab_iand d_K_draw_16 ?_
    refine ab_iload_n (i := 1) d_K_draw_17 rfl rfl ?_
    have g := h.1; have h := h.2
    refine ab_irem d_K_draw_18 g ?_
    exact h
  · have h := h.2 c1
    refine ab_iconst (v := 0) d_K_draw_5 rfl ?_
    refine ab_goto (tgt := 19) d_K_draw_6 (by decide) ?_
    exact h
theorem q_K_draw_19 {w : ab_Wd} {d n nc ns : Nat} {I : Nat → Nat → Int32} {L : Nat → Nat → Int64} {res : ab_Re} (v0 : Int32) (v1 : Int32) (s0 : Int32) (hc : nc ≤ res.2.2.2.2.2.1) (hs : ns ≤ res.2.2.2.2.2.2)
    (h : res = (.inl (some (.int s0)), (I, L, ab_RR, n, nc, ns))) : ab_E w d mt_K_draw 19 [.int v0, .int v1] [.int s0] (I, L, ab_RR, n, nc, ns) res := by
  exact ab_iret (ty := .int) d_K_draw_19 rfl rfl h
theorem d_K_nextSeed_0 : decode (ab_bc mt_K_nextSeed) 0 = .ok (.iload_n 0, 1) := by decide +kernel
theorem d_K_nextSeed_1 : decode (ab_bc mt_K_nextSeed) 1 = .ok (.ldc_w 456, 3) := by decide +kernel
theorem d_K_nextSeed_4 : decode (ab_bc mt_K_nextSeed) 4 = .ok (.imul, 1) := by decide +kernel
theorem d_K_nextSeed_5 : decode (ab_bc mt_K_nextSeed) 5 = .ok (.sipush 12345, 3) := by decide +kernel
theorem d_K_nextSeed_8 : decode (ab_bc mt_K_nextSeed) 8 = .ok (.iadd, 1) := by decide +kernel
theorem d_K_nextSeed_9 : decode (ab_bc mt_K_nextSeed) 9 = .ok (.ireturn, 1) := by decide +kernel
-- CableKeeper.nextSeed(I)I over 
theorem q_K_nextSeed_0 {w : ab_Wd} {d n nc ns : Nat} {I : Nat → Nat → Int32} {L : Nat → Nat → Int64} {res : ab_Re} (v0 : Int32) (hc : nc ≤ res.2.2.2.2.2.1) (hs : ns ≤ res.2.2.2.2.2.2)
    (h : res = (.inl (some (.int ((v0 * 1103515245) + 12345))), (I, L, ab_RR, n, nc, ns))) : ab_E w d mt_K_nextSeed 0 [.int v0] [] (I, L, ab_RR, n, nc, ns) res := by
  refine ab_iload_n (i := 0) d_K_nextSeed_0 rfl rfl ?_
  refine ab_ldcw (v := 1103515245) d_K_nextSeed_1 v_1353 ?_
  refine ab_imul d_K_nextSeed_4 ?_
  refine ab_sipush (v := 12345) d_K_nextSeed_5 rfl ?_
  refine ab_iadd d_K_nextSeed_8 ?_
  exact ab_iret (ty := .int) d_K_nextSeed_9 rfl rfl h
theorem d_K_unite_0 : decode (ab_bc mt_K_unite) 0 = .ok (.aload_n 0, 1) := by decide +kernel
theorem d_K_unite_1 : decode (ab_bc mt_K_unite) 1 = .ok (.iload_n 1, 1) := by decide +kernel
theorem d_K_unite_2 : decode (ab_bc mt_K_unite) 2 = .ok (.iaload, 1) := by decide +kernel
theorem d_K_unite_3 : decode (ab_bc mt_K_unite) 3 = .ok (.aload_n 0, 1) := by decide +kernel
theorem d_K_unite_4 : decode (ab_bc mt_K_unite) 4 = .ok (.iload_n 2, 1) := by decide +kernel
theorem d_K_unite_5 : decode (ab_bc mt_K_unite) 5 = .ok (.iaload, 1) := by decide +kernel
theorem d_K_unite_6 : decode (ab_bc mt_K_unite) 6 = .ok (.invokestatic 279, 3) := by decide +kernel
theorem d_K_unite_9 : decode (ab_bc mt_K_unite) 9 = .ok (.istore_n 3, 1) := by decide +kernel
theorem d_K_unite_10 : decode (ab_bc mt_K_unite) 10 = .ok (.aload_n 0, 1) := by decide +kernel
theorem d_K_unite_11 : decode (ab_bc mt_K_unite) 11 = .ok (.iload_n 1, 1) := by decide +kernel
theorem d_K_unite_12 : decode (ab_bc mt_K_unite) 12 = .ok (.iaload, 1) := by decide +kernel
theorem d_K_unite_13 : decode (ab_bc mt_K_unite) 13 = .ok (.aload_n 0, 1) := by decide +kernel
theorem d_K_unite_14 : decode (ab_bc mt_K_unite) 14 = .ok (.iload_n 2, 1) := by decide +kernel
theorem d_K_unite_15 : decode (ab_bc mt_K_unite) 15 = .ok (.iaload, 1) := by decide +kernel
theorem d_K_unite_16 : decode (ab_bc mt_K_unite) 16 = .ok (.invokestatic 378, 3) := by decide +kernel
theorem d_K_unite_19 : decode (ab_bc mt_K_unite) 19 = .ok (.istore 4, 2) := by decide +kernel
theorem d_K_unite_21 : decode (ab_bc mt_K_unite) 21 = .ok (.iload_n 3, 1) := by decide +kernel
theorem d_K_unite_22 : decode (ab_bc mt_K_unite) 22 = .ok (.iload 4, 2) := by decide +kernel
theorem d_K_unite_24 : decode (ab_bc mt_K_unite) 24 = .ok (.if_icmp .ne 5, 3) := by decide +kernel
theorem d_K_unite_27 : decode (ab_bc mt_K_unite) 27 = .ok (.iconst 0, 1) := by decide +kernel
theorem d_K_unite_28 : decode (ab_bc mt_K_unite) 28 = .ok (.ireturn, 1) := by decide +kernel
theorem d_K_unite_29 : decode (ab_bc mt_K_unite) 29 = .ok (.iload 4, 2) := by decide +kernel
theorem d_K_unite_31 : decode (ab_bc mt_K_unite) 31 = .ok (.istore 5, 2) := by decide +kernel
theorem d_K_unite_33 : decode (ab_bc mt_K_unite) 33 = .ok (.iload 5, 2) := by decide +kernel
theorem d_K_unite_35 : decode (ab_bc mt_K_unite) 35 = .ok (.aload_n 0, 1) := by decide +kernel
theorem d_K_unite_36 : decode (ab_bc mt_K_unite) 36 = .ok (.arraylength, 1) := by decide +kernel
theorem d_K_unite_37 : decode (ab_bc mt_K_unite) 37 = .ok (.if_icmp .ge 23, 3) := by decide +kernel
theorem d_K_unite_40 : decode (ab_bc mt_K_unite) 40 = .ok (.aload_n 0, 1) := by decide +kernel
theorem d_K_unite_41 : decode (ab_bc mt_K_unite) 41 = .ok (.iload 5, 2) := by decide +kernel
theorem d_K_unite_43 : decode (ab_bc mt_K_unite) 43 = .ok (.iaload, 1) := by decide +kernel
theorem d_K_unite_44 : decode (ab_bc mt_K_unite) 44 = .ok (.iload 4, 2) := by decide +kernel
theorem d_K_unite_46 : decode (ab_bc mt_K_unite) 46 = .ok (.if_icmp .ne 8, 3) := by decide +kernel
theorem d_K_unite_49 : decode (ab_bc mt_K_unite) 49 = .ok (.aload_n 0, 1) := by decide +kernel
theorem d_K_unite_50 : decode (ab_bc mt_K_unite) 50 = .ok (.iload 5, 2) := by decide +kernel
theorem d_K_unite_52 : decode (ab_bc mt_K_unite) 52 = .ok (.iload_n 3, 1) := by decide +kernel
theorem d_K_unite_53 : decode (ab_bc mt_K_unite) 53 = .ok (.iastore, 1) := by decide +kernel
theorem d_K_unite_54 : decode (ab_bc mt_K_unite) 54 = .ok (.iinc 5 1, 3) := by decide +kernel
theorem d_K_unite_57 : decode (ab_bc mt_K_unite) 57 = .ok (.goto (-24), 3) := by decide +kernel
theorem d_K_unite_60 : decode (ab_bc mt_K_unite) 60 = .ok (.iconst 1, 1) := by decide +kernel
theorem d_K_unite_61 : decode (ab_bc mt_K_unite) 61 = .ok (.ireturn, 1) := by decide +kernel
-- CableKeeper.unite([III)Z over kx_trialNet_piece
theorem q_K_unite_0_0 {w : ab_Wd} {d n nc ns : Nat} {I : Nat → Nat → Int32} {L : Nat → Nat → Int64} {res : ab_Re} (v1 : Int32) (v2 : Int32) (hc : nc ≤ res.2.2.2.2.2.1) (hs : ns ≤ res.2.2.2.2.2.2)
    (h : (vp_in v1 10) ∧ (vp_in v2 10) ∧ ((¬ (ab_min32 (I kx_trialNet_piece v1.toNatClampNeg) (I kx_trialNet_piece v2.toNatClampNeg)) = (ab_max32 (I kx_trialNet_piece v1.toNatClampNeg) (I kx_trialNet_piece v2.toNatClampNeg)) → (ab_E w (d + 1) mt_K_unite 33 [.ref kx_trialNet_piece, .int v1, .int v2, .int (ab_min32 (I kx_trialNet_piece v1.toNatClampNeg) (I kx_trialNet_piece v2.toNatClampNeg)), .int (ab_max32 (I kx_trialNet_piece v1.toNatClampNeg) (I kx_trialNet_piece v2.toNatClampNeg)), .int (ab_max32 (I kx_trialNet_piece v1.toNatClampNeg) (I kx_trialNet_piece v2.toNatClampNeg))] [] (I, L, ab_RR, n, nc, ns) res)) ∧ ((ab_min32 (I kx_trialNet_piece v1.toNatClampNeg) (I kx_trialNet_piece v2.toNatClampNeg)) = (ab_max32 (I kx_trialNet_piece v1.toNatClampNeg) (I kx_trialNet_piece v2.toNatClampNeg)) → (res = (.inl (some (.int 0)), (I, L, ab_RR, n, nc, ns)))))) : ab_E w (d + 1) mt_K_unite 0 [.ref kx_trialNet_piece, .int v1, .int v2, .null, .null, .null] [] (I, L, ab_RR, n, nc, ns) res := by
  refine ab_aload_n (i := 0) d_K_unite_0 rfl rfl ?_
  refine ab_iload_n (i := 1) d_K_unite_1 rfl rfl ?_
  have g1 := h.1; have h := h.2
  refine ab_iald d_K_unite_2 rfl rfl g1 ?_
  refine ab_aload_n (i := 0) d_K_unite_3 rfl rfl ?_
  refine ab_iload_n (i := 2) d_K_unite_4 rfl rfl ?_
  have g2 := h.1; have h := h.2
  refine ab_iald d_K_unite_5 rfl rfl g2 ?_
  refine ab_min d_K_unite_6 v_447 v_448 v_150 v_449 (Nat.succ_le_succ (Nat.zero_le _)) (Nat.le_of_ble_eq_true rfl) hc hs ?_
  refine ab_istore_n (i := 3) d_K_unite_9 rfl (by decide) (Or.inr rfl) ?_
  refine ab_aload_n (i := 0) d_K_unite_10 rfl rfl ?_
  refine ab_iload_n (i := 1) d_K_unite_11 rfl rfl ?_
  refine ab_iald d_K_unite_12 rfl rfl g1 ?_
  refine ab_aload_n (i := 0) d_K_unite_13 rfl rfl ?_
  refine ab_iload_n (i := 2) d_K_unite_14 rfl rfl ?_
  refine ab_iald d_K_unite_15 rfl rfl g2 ?_
  refine ab_max d_K_unite_16 v_450 v_451 v_150 v_452 (Nat.succ_le_succ (Nat.zero_le _)) (Nat.le_of_ble_eq_true rfl) hc hs ?_
  refine ab_istore (i := 4) d_K_unite_19 (by decide) (Or.inr rfl) ?_
  refine ab_iload_n (i := 3) d_K_unite_21 rfl rfl ?_
  refine ab_iload (i := 4) d_K_unite_22 rfl ?_
  refine ab_icmp_ne (tgt := 29) d_K_unite_24 (by decide) (fun c3 => ?_) (fun c3 => ?_)
  · have h := h.1 c3
    refine ab_iload (i := 4) d_K_unite_29 rfl ?_
    refine ab_istore (i := 5) d_K_unite_31 (by decide) (Or.inr rfl) ?_
    exact h
  · have h := h.2 c3
    refine ab_iconst (v := 0) d_K_unite_27 rfl ?_
    exact ab_iret (ty := .boolean) d_K_unite_28 rfl rfl h
theorem q_K_unite_0_33 {w : ab_Wd} {d n nc ns : Nat} {I : Nat → Nat → Int32} {L : Nat → Nat → Int64} {res : ab_Re} (v1 : Int32) (v2 : Int32) (v3 : Int32) (v4 : Int32) (v5 : Int32) (hc : nc ≤ res.2.2.2.2.2.1) (hs : ns ≤ res.2.2.2.2.2.2)
    (h : ((10 ≤ v5 → (res = (.inl (some (.int 1)), (I, L, ab_RR, n, nc, ns)))) ∧ (¬ 10 ≤ v5 → ((vp_in v5 10) ∧ ((¬ (I kx_trialNet_piece v5.toNatClampNeg) = v4 → (ab_E w (d + 1) mt_K_unite 54 [.ref kx_trialNet_piece, .int v1, .int v2, .int v3, .int v4, .int v5] [] (I, L, ab_RR, n, nc, ns) res)) ∧ ((I kx_trialNet_piece v5.toNatClampNeg) = v4 → (ab_E w (d + 1) mt_K_unite 54 [.ref kx_trialNet_piece, .int v1, .int v2, .int v3, .int v4, .int v5] [] ((ab_up I kx_trialNet_piece v5.toNatClampNeg v3), L, ab_RR, n, nc, ns) res))))))) : ab_E w (d + 1) mt_K_unite 33 [.ref kx_trialNet_piece, .int v1, .int v2, .int v3, .int v4, .int v5] [] (I, L, ab_RR, n, nc, ns) res := by
  refine ab_iload (i := 5) d_K_unite_33 rfl ?_
  refine ab_aload_n (i := 0) d_K_unite_35 rfl rfl ?_
  refine ab_alen (v := 10) d_K_unite_36 (by decide) (by decide) rfl ?_
  refine ab_icmp_ge (tgt := 60) d_K_unite_37 (by decide) (fun c1 => ?_) (fun c1 => ?_)
  · have h := h.1 c1
    refine ab_iconst (v := 1) d_K_unite_60 rfl ?_
    exact ab_iret (ty := .boolean) d_K_unite_61 rfl rfl h
  · have h := h.2 c1
    refine ab_aload_n (i := 0) d_K_unite_40 rfl rfl ?_
    refine ab_iload (i := 5) d_K_unite_41 rfl ?_
    have g2 := h.1; have h := h.2
    refine ab_iald d_K_unite_43 rfl rfl g2 ?_
    refine ab_iload (i := 4) d_K_unite_44 rfl ?_
    refine ab_icmp_ne (tgt := 54) d_K_unite_46 (by decide) (fun c3 => ?_) (fun c3 => ?_)
    · have h := h.1 c3
      exact h
    · have h := h.2 c3
      refine ab_aload_n (i := 0) d_K_unite_49 rfl rfl ?_
      refine ab_iload (i := 5) d_K_unite_50 rfl ?_
      refine ab_iload_n (i := 3) d_K_unite_52 rfl rfl ?_
      refine ab_iast d_K_unite_53 rfl rfl g2 ?_
      exact h
theorem q_K_unite_0_54 {w : ab_Wd} {d n nc ns : Nat} {I : Nat → Nat → Int32} {L : Nat → Nat → Int64} {res : ab_Re} (v1 : Int32) (v2 : Int32) (v3 : Int32) (v4 : Int32) (v5 : Int32) (hc : nc ≤ res.2.2.2.2.2.1) (hs : ns ≤ res.2.2.2.2.2.2)
    (h : ab_E w (d + 1) mt_K_unite 33 [.ref kx_trialNet_piece, .int v1, .int v2, .int v3, .int v4, .int (v5 + 1)] [] (I, L, ab_RR, n, nc, ns) res) : ab_E w (d + 1) mt_K_unite 54 [.ref kx_trialNet_piece, .int v1, .int v2, .int v3, .int v4, .int v5] [] (I, L, ab_RR, n, nc, ns) res := by
  refine ab_iinc (i := 5) (v := (v5 + 1)) d_K_unite_54 rfl rfl (by decide) (Or.inr rfl) ?_
  refine ab_goto (tgt := 33) d_K_unite_57 (by decide) ?_
  exact h
-- CableKeeper.unite([III)Z over kx_forest_piece
theorem q_K_unite_1_0 {w : ab_Wd} {d n nc ns : Nat} {I : Nat → Nat → Int32} {L : Nat → Nat → Int64} {res : ab_Re} (v1 : Int32) (v2 : Int32) (hc : nc ≤ res.2.2.2.2.2.1) (hs : ns ≤ res.2.2.2.2.2.2)
    (h : (vp_in v1 10) ∧ (vp_in v2 10) ∧ ((¬ (ab_min32 (I kx_forest_piece v1.toNatClampNeg) (I kx_forest_piece v2.toNatClampNeg)) = (ab_max32 (I kx_forest_piece v1.toNatClampNeg) (I kx_forest_piece v2.toNatClampNeg)) → (ab_E w (d + 1) mt_K_unite 33 [.ref kx_forest_piece, .int v1, .int v2, .int (ab_min32 (I kx_forest_piece v1.toNatClampNeg) (I kx_forest_piece v2.toNatClampNeg)), .int (ab_max32 (I kx_forest_piece v1.toNatClampNeg) (I kx_forest_piece v2.toNatClampNeg)), .int (ab_max32 (I kx_forest_piece v1.toNatClampNeg) (I kx_forest_piece v2.toNatClampNeg))] [] (I, L, ab_RR, n, nc, ns) res)) ∧ ((ab_min32 (I kx_forest_piece v1.toNatClampNeg) (I kx_forest_piece v2.toNatClampNeg)) = (ab_max32 (I kx_forest_piece v1.toNatClampNeg) (I kx_forest_piece v2.toNatClampNeg)) → (res = (.inl (some (.int 0)), (I, L, ab_RR, n, nc, ns)))))) : ab_E w (d + 1) mt_K_unite 0 [.ref kx_forest_piece, .int v1, .int v2, .null, .null, .null] [] (I, L, ab_RR, n, nc, ns) res := by
  refine ab_aload_n (i := 0) d_K_unite_0 rfl rfl ?_
  refine ab_iload_n (i := 1) d_K_unite_1 rfl rfl ?_
  have g1 := h.1; have h := h.2
  refine ab_iald d_K_unite_2 rfl rfl g1 ?_
  refine ab_aload_n (i := 0) d_K_unite_3 rfl rfl ?_
  refine ab_iload_n (i := 2) d_K_unite_4 rfl rfl ?_
  have g2 := h.1; have h := h.2
  refine ab_iald d_K_unite_5 rfl rfl g2 ?_
  refine ab_min d_K_unite_6 v_447 v_448 v_150 v_449 (Nat.succ_le_succ (Nat.zero_le _)) (Nat.le_of_ble_eq_true rfl) hc hs ?_
  refine ab_istore_n (i := 3) d_K_unite_9 rfl (by decide) (Or.inr rfl) ?_
  refine ab_aload_n (i := 0) d_K_unite_10 rfl rfl ?_
  refine ab_iload_n (i := 1) d_K_unite_11 rfl rfl ?_
  refine ab_iald d_K_unite_12 rfl rfl g1 ?_
  refine ab_aload_n (i := 0) d_K_unite_13 rfl rfl ?_
  refine ab_iload_n (i := 2) d_K_unite_14 rfl rfl ?_
  refine ab_iald d_K_unite_15 rfl rfl g2 ?_
  refine ab_max d_K_unite_16 v_450 v_451 v_150 v_452 (Nat.succ_le_succ (Nat.zero_le _)) (Nat.le_of_ble_eq_true rfl) hc hs ?_
  refine ab_istore (i := 4) d_K_unite_19 (by decide) (Or.inr rfl) ?_
  refine ab_iload_n (i := 3) d_K_unite_21 rfl rfl ?_
  refine ab_iload (i := 4) d_K_unite_22 rfl ?_
  refine ab_icmp_ne (tgt := 29) d_K_unite_24 (by decide) (fun c3 => ?_) (fun c3 => ?_)
  · have h := h.1 c3
    refine ab_iload (i := 4) d_K_unite_29 rfl ?_
    refine ab_istore (i := 5) d_K_unite_31 (by decide) (Or.inr rfl) ?_
    exact h
  · have h := h.2 c3
    refine ab_iconst (v := 0) d_K_unite_27 rfl ?_
    exact ab_iret (ty := .boolean) d_K_unite_28 rfl rfl h
theorem q_K_unite_1_33 {w : ab_Wd} {d n nc ns : Nat} {I : Nat → Nat → Int32} {L : Nat → Nat → Int64} {res : ab_Re} (v1 : Int32) (v2 : Int32) (v3 : Int32) (v4 : Int32) (v5 : Int32) (hc : nc ≤ res.2.2.2.2.2.1) (hs : ns ≤ res.2.2.2.2.2.2)
    (h : ((10 ≤ v5 → (res = (.inl (some (.int 1)), (I, L, ab_RR, n, nc, ns)))) ∧ (¬ 10 ≤ v5 → ((vp_in v5 10) ∧ ((¬ (I kx_forest_piece v5.toNatClampNeg) = v4 → (ab_E w (d + 1) mt_K_unite 54 [.ref kx_forest_piece, .int v1, .int v2, .int v3, .int v4, .int v5] [] (I, L, ab_RR, n, nc, ns) res)) ∧ ((I kx_forest_piece v5.toNatClampNeg) = v4 → (ab_E w (d + 1) mt_K_unite 54 [.ref kx_forest_piece, .int v1, .int v2, .int v3, .int v4, .int v5] [] ((ab_up I kx_forest_piece v5.toNatClampNeg v3), L, ab_RR, n, nc, ns) res))))))) : ab_E w (d + 1) mt_K_unite 33 [.ref kx_forest_piece, .int v1, .int v2, .int v3, .int v4, .int v5] [] (I, L, ab_RR, n, nc, ns) res := by
  refine ab_iload (i := 5) d_K_unite_33 rfl ?_
  refine ab_aload_n (i := 0) d_K_unite_35 rfl rfl ?_
  refine ab_alen (v := 10) d_K_unite_36 (by decide) (by decide) rfl ?_
  refine ab_icmp_ge (tgt := 60) d_K_unite_37 (by decide) (fun c1 => ?_) (fun c1 => ?_)
  · have h := h.1 c1
    refine ab_iconst (v := 1) d_K_unite_60 rfl ?_
    exact ab_iret (ty := .boolean) d_K_unite_61 rfl rfl h
  · have h := h.2 c1
    refine ab_aload_n (i := 0) d_K_unite_40 rfl rfl ?_
    refine ab_iload (i := 5) d_K_unite_41 rfl ?_
    have g2 := h.1; have h := h.2
    refine ab_iald d_K_unite_43 rfl rfl g2 ?_
    refine ab_iload (i := 4) d_K_unite_44 rfl ?_
    refine ab_icmp_ne (tgt := 54) d_K_unite_46 (by decide) (fun c3 => ?_) (fun c3 => ?_)
    · have h := h.1 c3
      exact h
    · have h := h.2 c3
      refine ab_aload_n (i := 0) d_K_unite_49 rfl rfl ?_
      refine ab_iload (i := 5) d_K_unite_50 rfl ?_
      refine ab_iload_n (i := 3) d_K_unite_52 rfl rfl ?_
      refine ab_iast d_K_unite_53 rfl rfl g2 ?_
      exact h
theorem q_K_unite_1_54 {w : ab_Wd} {d n nc ns : Nat} {I : Nat → Nat → Int32} {L : Nat → Nat → Int64} {res : ab_Re} (v1 : Int32) (v2 : Int32) (v3 : Int32) (v4 : Int32) (v5 : Int32) (hc : nc ≤ res.2.2.2.2.2.1) (hs : ns ≤ res.2.2.2.2.2.2)
    (h : ab_E w (d + 1) mt_K_unite 33 [.ref kx_forest_piece, .int v1, .int v2, .int v3, .int v4, .int (v5 + 1)] [] (I, L, ab_RR, n, nc, ns) res) : ab_E w (d + 1) mt_K_unite 54 [.ref kx_forest_piece, .int v1, .int v2, .int v3, .int v4, .int v5] [] (I, L, ab_RR, n, nc, ns) res := by
  refine ab_iinc (i := 5) (v := (v5 + 1)) d_K_unite_54 rfl rfl (by decide) (Or.inr rfl) ?_
  refine ab_goto (tgt := 33) d_K_unite_57 (by decide) ?_
  exact h
-- CableKeeper.unite([III)Z over kx_likes_behind
theorem q_K_unite_2_0 {w : ab_Wd} {d n nc ns : Nat} {I : Nat → Nat → Int32} {L : Nat → Nat → Int64} {res : ab_Re} (v1 : Int32) (v2 : Int32) (hc : nc ≤ res.2.2.2.2.2.1) (hs : ns ≤ res.2.2.2.2.2.2)
    (h : (vp_in v1 10) ∧ (vp_in v2 10) ∧ ((¬ (ab_min32 (I kx_likes_behind v1.toNatClampNeg) (I kx_likes_behind v2.toNatClampNeg)) = (ab_max32 (I kx_likes_behind v1.toNatClampNeg) (I kx_likes_behind v2.toNatClampNeg)) → (ab_E w (d + 1) mt_K_unite 33 [.ref kx_likes_behind, .int v1, .int v2, .int (ab_min32 (I kx_likes_behind v1.toNatClampNeg) (I kx_likes_behind v2.toNatClampNeg)), .int (ab_max32 (I kx_likes_behind v1.toNatClampNeg) (I kx_likes_behind v2.toNatClampNeg)), .int (ab_max32 (I kx_likes_behind v1.toNatClampNeg) (I kx_likes_behind v2.toNatClampNeg))] [] (I, L, ab_RR, n, nc, ns) res)) ∧ ((ab_min32 (I kx_likes_behind v1.toNatClampNeg) (I kx_likes_behind v2.toNatClampNeg)) = (ab_max32 (I kx_likes_behind v1.toNatClampNeg) (I kx_likes_behind v2.toNatClampNeg)) → (res = (.inl (some (.int 0)), (I, L, ab_RR, n, nc, ns)))))) : ab_E w (d + 1) mt_K_unite 0 [.ref kx_likes_behind, .int v1, .int v2, .null, .null, .null] [] (I, L, ab_RR, n, nc, ns) res := by
  refine ab_aload_n (i := 0) d_K_unite_0 rfl rfl ?_
  refine ab_iload_n (i := 1) d_K_unite_1 rfl rfl ?_
  have g1 := h.1; have h := h.2
  refine ab_iald d_K_unite_2 rfl rfl g1 ?_
  refine ab_aload_n (i := 0) d_K_unite_3 rfl rfl ?_
  refine ab_iload_n (i := 2) d_K_unite_4 rfl rfl ?_
  have g2 := h.1; have h := h.2
  refine ab_iald d_K_unite_5 rfl rfl g2 ?_
  refine ab_min d_K_unite_6 v_447 v_448 v_150 v_449 (Nat.succ_le_succ (Nat.zero_le _)) (Nat.le_of_ble_eq_true rfl) hc hs ?_
  refine ab_istore_n (i := 3) d_K_unite_9 rfl (by decide) (Or.inr rfl) ?_
  refine ab_aload_n (i := 0) d_K_unite_10 rfl rfl ?_
  refine ab_iload_n (i := 1) d_K_unite_11 rfl rfl ?_
  refine ab_iald d_K_unite_12 rfl rfl g1 ?_
  refine ab_aload_n (i := 0) d_K_unite_13 rfl rfl ?_
  refine ab_iload_n (i := 2) d_K_unite_14 rfl rfl ?_
  refine ab_iald d_K_unite_15 rfl rfl g2 ?_
  refine ab_max d_K_unite_16 v_450 v_451 v_150 v_452 (Nat.succ_le_succ (Nat.zero_le _)) (Nat.le_of_ble_eq_true rfl) hc hs ?_
  refine ab_istore (i := 4) d_K_unite_19 (by decide) (Or.inr rfl) ?_
  refine ab_iload_n (i := 3) d_K_unite_21 rfl rfl ?_
  refine ab_iload (i := 4) d_K_unite_22 rfl ?_
  refine ab_icmp_ne (tgt := 29) d_K_unite_24 (by decide) (fun c3 => ?_) (fun c3 => ?_)
  · have h := h.1 c3
    refine ab_iload (i := 4) d_K_unite_29 rfl ?_
    refine ab_istore (i := 5) d_K_unite_31 (by decide) (Or.inr rfl) ?_
    exact h
  · have h := h.2 c3
    refine ab_iconst (v := 0) d_K_unite_27 rfl ?_
    exact ab_iret (ty := .boolean) d_K_unite_28 rfl rfl h
theorem q_K_unite_2_33 {w : ab_Wd} {d n nc ns : Nat} {I : Nat → Nat → Int32} {L : Nat → Nat → Int64} {res : ab_Re} (v1 : Int32) (v2 : Int32) (v3 : Int32) (v4 : Int32) (v5 : Int32) (hc : nc ≤ res.2.2.2.2.2.1) (hs : ns ≤ res.2.2.2.2.2.2)
    (h : ((10 ≤ v5 → (res = (.inl (some (.int 1)), (I, L, ab_RR, n, nc, ns)))) ∧ (¬ 10 ≤ v5 → ((vp_in v5 10) ∧ ((¬ (I kx_likes_behind v5.toNatClampNeg) = v4 → (ab_E w (d + 1) mt_K_unite 54 [.ref kx_likes_behind, .int v1, .int v2, .int v3, .int v4, .int v5] [] (I, L, ab_RR, n, nc, ns) res)) ∧ ((I kx_likes_behind v5.toNatClampNeg) = v4 → (ab_E w (d + 1) mt_K_unite 54 [.ref kx_likes_behind, .int v1, .int v2, .int v3, .int v4, .int v5] [] ((ab_up I kx_likes_behind v5.toNatClampNeg v3), L, ab_RR, n, nc, ns) res))))))) : ab_E w (d + 1) mt_K_unite 33 [.ref kx_likes_behind, .int v1, .int v2, .int v3, .int v4, .int v5] [] (I, L, ab_RR, n, nc, ns) res := by
  refine ab_iload (i := 5) d_K_unite_33 rfl ?_
  refine ab_aload_n (i := 0) d_K_unite_35 rfl rfl ?_
  refine ab_alen (v := 10) d_K_unite_36 (by decide) (by decide) rfl ?_
  refine ab_icmp_ge (tgt := 60) d_K_unite_37 (by decide) (fun c1 => ?_) (fun c1 => ?_)
  · have h := h.1 c1
    refine ab_iconst (v := 1) d_K_unite_60 rfl ?_
    exact ab_iret (ty := .boolean) d_K_unite_61 rfl rfl h
  · have h := h.2 c1
    refine ab_aload_n (i := 0) d_K_unite_40 rfl rfl ?_
    refine ab_iload (i := 5) d_K_unite_41 rfl ?_
    have g2 := h.1; have h := h.2
    refine ab_iald d_K_unite_43 rfl rfl g2 ?_
    refine ab_iload (i := 4) d_K_unite_44 rfl ?_
    refine ab_icmp_ne (tgt := 54) d_K_unite_46 (by decide) (fun c3 => ?_) (fun c3 => ?_)
    · have h := h.1 c3
      exact h
    · have h := h.2 c3
      refine ab_aload_n (i := 0) d_K_unite_49 rfl rfl ?_
      refine ab_iload (i := 5) d_K_unite_50 rfl ?_
      refine ab_iload_n (i := 3) d_K_unite_52 rfl rfl ?_
      refine ab_iast d_K_unite_53 rfl rfl g2 ?_
      exact h
theorem q_K_unite_2_54 {w : ab_Wd} {d n nc ns : Nat} {I : Nat → Nat → Int32} {L : Nat → Nat → Int64} {res : ab_Re} (v1 : Int32) (v2 : Int32) (v3 : Int32) (v4 : Int32) (v5 : Int32) (hc : nc ≤ res.2.2.2.2.2.1) (hs : ns ≤ res.2.2.2.2.2.2)
    (h : ab_E w (d + 1) mt_K_unite 33 [.ref kx_likes_behind, .int v1, .int v2, .int v3, .int v4, .int (v5 + 1)] [] (I, L, ab_RR, n, nc, ns) res) : ab_E w (d + 1) mt_K_unite 54 [.ref kx_likes_behind, .int v1, .int v2, .int v3, .int v4, .int v5] [] (I, L, ab_RR, n, nc, ns) res := by
  refine ab_iinc (i := 5) (v := (v5 + 1)) d_K_unite_54 rfl rfl (by decide) (Or.inr rfl) ?_
  refine ab_goto (tgt := 33) d_K_unite_57 (by decide) ?_
  exact h
