theorem d_Acts_takeBack_0 : decode (ab_bc mt_Acts_takeBack) 0 = .ok (.aload_n 0, 1) := by decide +kernel
theorem d_Acts_takeBack_1 : decode (ab_bc mt_Acts_takeBack) 1 = .ok (.iconst 0, 1) := by decide +kernel
theorem d_Acts_takeBack_2 : decode (ab_bc mt_Acts_takeBack) 2 = .ok (.aload_n 0, 1) := by decide +kernel
theorem d_Acts_takeBack_3 : decode (ab_bc mt_Acts_takeBack) 3 = .ok (.getfield 28, 3) := by decide +kernel
theorem d_Acts_takeBack_6 : decode (ab_bc mt_Acts_takeBack) 6 = .ok (.iconst 1, 1) := by decide +kernel
theorem d_Acts_takeBack_7 : decode (ab_bc mt_Acts_takeBack) 7 = .ok (.isub, 1) := by decide +kernel
theorem d_Acts_takeBack_8 : decode (ab_bc mt_Acts_takeBack) 8 = .ok (.invokestatic 48, 3) := by decide +kernel
theorem d_Acts_takeBack_11 : decode (ab_bc mt_Acts_takeBack) 11 = .ok (.putfield 28, 3) := by decide +kernel
theorem d_Acts_takeBack_14 : decode (ab_bc mt_Acts_takeBack) 14 = .ok (.aload_n 0, 1) := by decide +kernel
theorem d_Acts_takeBack_15 : decode (ab_bc mt_Acts_takeBack) 15 = .ok (.getfield 24, 3) := by decide +kernel
theorem d_Acts_takeBack_18 : decode (ab_bc mt_Acts_takeBack) 18 = .ok (.aload_n 0, 1) := by decide +kernel
theorem d_Acts_takeBack_19 : decode (ab_bc mt_Acts_takeBack) 19 = .ok (.getfield 28, 3) := by decide +kernel
theorem d_Acts_takeBack_22 : decode (ab_bc mt_Acts_takeBack) 22 = .ok (.iadd, 1) := by decide +kernel
theorem d_Acts_takeBack_23 : decode (ab_bc mt_Acts_takeBack) 23 = .ok (.bipush 40, 2) := by decide +kernel
theorem d_Acts_takeBack_25 : decode (ab_bc mt_Acts_takeBack) 25 = .ok (.irem, 1) := by decide +kernel
theorem d_Acts_takeBack_26 : decode (ab_bc mt_Acts_takeBack) 26 = .ok (.istore_n 2, 1) := by decide +kernel
theorem d_Acts_takeBack_27 : decode (ab_bc mt_Acts_takeBack) 27 = .ok (.aload_n 0, 1) := by decide +kernel
theorem d_Acts_takeBack_28 : decode (ab_bc mt_Acts_takeBack) 28 = .ok (.getfield 11, 3) := by decide +kernel
theorem d_Acts_takeBack_31 : decode (ab_bc mt_Acts_takeBack) 31 = .ok (.iload_n 2, 1) := by decide +kernel
theorem d_Acts_takeBack_32 : decode (ab_bc mt_Acts_takeBack) 32 = .ok (.bipush 24, 2) := by decide +kernel
theorem d_Acts_takeBack_34 : decode (ab_bc mt_Acts_takeBack) 34 = .ok (.imul, 1) := by decide +kernel
theorem d_Acts_takeBack_35 : decode (ab_bc mt_Acts_takeBack) 35 = .ok (.aload_n 1, 1) := by decide +kernel
theorem d_Acts_takeBack_36 : decode (ab_bc mt_Acts_takeBack) 36 = .ok (.getfield 37, 3) := by decide +kernel
theorem d_Acts_takeBack_39 : decode (ab_bc mt_Acts_takeBack) 39 = .ok (.iconst 0, 1) := by decide +kernel
theorem d_Acts_takeBack_40 : decode (ab_bc mt_Acts_takeBack) 40 = .ok (.bipush 24, 2) := by decide +kernel
theorem d_Acts_takeBack_42 : decode (ab_bc mt_Acts_takeBack) 42 = .ok (.invokestatic 31, 3) := by decide +kernel
theorem d_Acts_takeBack_45 : decode (ab_bc mt_Acts_takeBack) 45 = .ok (.aload_n 1, 1) := by decide +kernel
theorem d_Acts_takeBack_46 : decode (ab_bc mt_Acts_takeBack) 46 = .ok (.aload_n 0, 1) := by decide +kernel
theorem d_Acts_takeBack_47 : decode (ab_bc mt_Acts_takeBack) 47 = .ok (.getfield 15, 3) := by decide +kernel
theorem d_Acts_takeBack_50 : decode (ab_bc mt_Acts_takeBack) 50 = .ok (.iload_n 2, 1) := by decide +kernel
theorem d_Acts_takeBack_51 : decode (ab_bc mt_Acts_takeBack) 51 = .ok (.iaload, 1) := by decide +kernel
theorem d_Acts_takeBack_52 : decode (ab_bc mt_Acts_takeBack) 52 = .ok (.putfield 42, 3) := by decide +kernel
theorem d_Acts_takeBack_55 : decode (ab_bc mt_Acts_takeBack) 55 = .ok (.aload_n 1, 1) := by decide +kernel
theorem d_Acts_takeBack_56 : decode (ab_bc mt_Acts_takeBack) 56 = .ok (.aload_n 0, 1) := by decide +kernel
theorem d_Acts_takeBack_57 : decode (ab_bc mt_Acts_takeBack) 57 = .ok (.getfield 18, 3) := by decide +kernel
theorem d_Acts_takeBack_60 : decode (ab_bc mt_Acts_takeBack) 60 = .ok (.iload_n 2, 1) := by decide +kernel
theorem d_Acts_takeBack_61 : decode (ab_bc mt_Acts_takeBack) 61 = .ok (.iaload, 1) := by decide +kernel
theorem d_Acts_takeBack_62 : decode (ab_bc mt_Acts_takeBack) 62 = .ok (.putfield 45, 3) := by decide +kernel
theorem d_Acts_takeBack_65 : decode (ab_bc mt_Acts_takeBack) 65 = .ok (.aload_n 1, 1) := by decide +kernel
theorem d_Acts_takeBack_66 : decode (ab_bc mt_Acts_takeBack) 66 = .ok (.invokevirtual 54, 3) := by decide +kernel
theorem d_Acts_takeBack_69 : decode (ab_bc mt_Acts_takeBack) 69 = .ok (.aload_n 0, 1) := by decide +kernel
theorem d_Acts_takeBack_70 : decode (ab_bc mt_Acts_takeBack) 70 = .ok (.getfield 21, 3) := by decide +kernel
theorem d_Acts_takeBack_73 : decode (ab_bc mt_Acts_takeBack) 73 = .ok (.iload_n 2, 1) := by decide +kernel
theorem d_Acts_takeBack_74 : decode (ab_bc mt_Acts_takeBack) 74 = .ok (.iaload, 1) := by decide +kernel
theorem d_Acts_takeBack_75 : decode (ab_bc mt_Acts_takeBack) 75 = .ok (.ireturn, 1) := by decide +kernel
-- CableKeeper$Acts.takeBack(LCableKeeper$Cables;)I over kx_now_acts, kx_now_cables
theorem q_Acts_takeBack_0 {w : ab_Wd} {d n nc ns : Nat} {I : Nat → Nat → Int32} {L : Nat → Nat → Int64} {res : ab_Re}  (hc : nc ≤ res.2.2.2.2.2.1) (hs : ns ≤ res.2.2.2.2.2.2)
    (h : (¬ ((((I kx_now_acts 4) + (ab_max32 0 ((I kx_now_acts 5) - 1))) - ((I kx_now_acts 4) + (ab_max32 0 ((I kx_now_acts 5) - 1))) / 40 * 40) * 24) < 0) ∧ (((((I kx_now_acts 4) + (ab_max32 0 ((I kx_now_acts 5) - 1))) - ((I kx_now_acts 4) + (ab_max32 0 ((I kx_now_acts 5) - 1))) / 40 * 40) * 24).toNatClampNeg + 24 ≤ 960) ∧ (vp_in (((I kx_now_acts 4) + (ab_max32 0 ((I kx_now_acts 5) - 1))) - ((I kx_now_acts 4) + (ab_max32 0 ((I kx_now_acts 5) - 1))) / 40 * 40) 40) ∧ ∃ (I5 : Nat → Nat → Int32), ab_C w d mt_Cables_sort [.ref kx_now_cables] ((ab_up (ab_up (ab_row (ab_up I kx_now_acts 5 (ab_max32 0 ((I kx_now_acts 5) - 1))) kx_now_cables_price (va_cpy (I kx_now_acts_prices) (I kx_now_cables_price) ((((I kx_now_acts 4) + (ab_max32 0 ((I kx_now_acts 5) - 1))) - ((I kx_now_acts 4) + (ab_max32 0 ((I kx_now_acts 5) - 1))) / 40 * 40) * 24).toNatClampNeg 0 24)) kx_now_cables 1 (I kx_now_acts_counts (((I kx_now_acts 4) + (ab_max32 0 ((I kx_now_acts 5) - 1))) - ((I kx_now_acts 4) + (ab_max32 0 ((I kx_now_acts 5) - 1))) / 40 * 40).toNatClampNeg)) kx_now_cables 2 (I kx_now_acts_sounds (((I kx_now_acts 4) + (ab_max32 0 ((I kx_now_acts 5) - 1))) - ((I kx_now_acts 4) + (ab_max32 0 ((I kx_now_acts 5) - 1))) / 40 * 40).toNatClampNeg)), L, ab_RR, n, nc, ns) (.inl none, (I5, L, ab_RR, n, nc, ns)) ∧ res = (.inl (some (.int (I5 kx_now_acts_swaps (((I kx_now_acts 4) + (ab_max32 0 ((I kx_now_acts 5) - 1))) - ((I kx_now_acts 4) + (ab_max32 0 ((I kx_now_acts 5) - 1))) / 40 * 40).toNatClampNeg))), (I5, L, ab_RR, n, nc, ns))) : ab_E w (d + 1) mt_Acts_takeBack 0 [.ref kx_now_acts, .ref kx_now_cables, .null] [] (I, L, ab_RR, n, nc, ns) res := by
  refine ab_aload_n (i := 0) d_Acts_takeBack_0 rfl rfl ?_
  refine ab_iconst (v := 0) d_Acts_takeBack_1 rfl ?_
  refine ab_aload_n (i := 0) d_Acts_takeBack_2 rfl rfl ?_
  refine ab_getI (ci := 0) (k := 5) d_Acts_takeBack_3 v_278 rfl (by decide) (by decide) rfl ?_
  refine ab_iconst (v := 1) d_Acts_takeBack_6 rfl ?_
  refine ab_isub d_Acts_takeBack_7 ?_
  refine ab_max d_Acts_takeBack_8 v_649 v_451 v_150 v_452 (Nat.succ_le_succ (Nat.zero_le _)) (Nat.le_of_ble_eq_true rfl) hc hs ?_
  refine ab_putI (ci := 0) (k := 5) d_Acts_takeBack_11 v_278 rfl (by decide) (by decide) rfl (Or.inl rfl) rfl rfl ?_
  refine ab_aload_n (i := 0) d_Acts_takeBack_14 rfl rfl ?_
  refine ab_getI (ci := 0) (k := 4) d_Acts_takeBack_15 v_277 rfl (by decide) (by decide) rfl ?_
  refine ab_aload_n (i := 0) d_Acts_takeBack_18 rfl rfl ?_
  refine ab_getI (ci := 0) (k := 5) d_Acts_takeBack_19 v_278 rfl (by decide) (by decide) rfl ?_
  refine ab_iadd d_Acts_takeBack_22 ?_
  refine ab_bipush (v := 40) d_Acts_takeBack_23 rfl ?_
  refine ab_irem d_Acts_takeBack_25 (by decide) ?_
  refine ab_istore_n (i := 2) d_Acts_takeBack_26 rfl (by decide) (Or.inr rfl) ?_
  refine ab_aload_n (i := 0) d_Acts_takeBack_27 rfl rfl ?_
  refine ab_getR (ci := 0) (k := 0) (j := kx_now_acts_prices) d_Acts_takeBack_28 v_273 rfl (by decide) (by decide) rfl r_kx_now_acts_0 ?_
  refine ab_iload_n (i := 2) d_Acts_takeBack_31 rfl rfl ?_
  refine ab_bipush (v := 24) d_Acts_takeBack_32 rfl ?_
  refine ab_imul d_Acts_takeBack_34 ?_
  refine ab_aload_n (i := 1) d_Acts_takeBack_35 rfl rfl ?_
  refine ab_getR (ci := 1) (k := 5) (j := kx_now_cables_price) d_Acts_takeBack_36 v_222 rfl (by decide) (by decide) rfl r_kx_now_cables_5 ?_
  refine ab_iconst (v := 0) d_Acts_takeBack_39 rfl ?_
  refine ab_bipush (v := 24) d_Acts_takeBack_40 rfl ?_
  have g1 := h.1; have h := h.2
  have g2 := h.1; have h := h.2
  refine ab_copy d_Acts_takeBack_42 v_586 v_562 v_561 v_161 rfl rfl rfl rfl g1 (by decide) (by decide) g2 (by decide) (Nat.succ_le_succ (Nat.zero_le _)) (Nat.le_of_ble_eq_true rfl) ?_
  refine ab_aload_n (i := 1) d_Acts_takeBack_45 rfl rfl ?_
  refine ab_aload_n (i := 0) d_Acts_takeBack_46 rfl rfl ?_
  refine ab_getR (ci := 0) (k := 1) (j := kx_now_acts_counts) d_Acts_takeBack_47 v_274 rfl (by decide) (by decide) rfl r_kx_now_acts_1 ?_
  refine ab_iload_n (i := 2) d_Acts_takeBack_50 rfl rfl ?_
  have g3 := h.1; have h := h.2
  refine ab_iald d_Acts_takeBack_51 rfl rfl g3 ?_
  refine ab_putI (ci := 1) (k := 1) d_Acts_takeBack_52 v_197 rfl (by decide) (by decide) rfl (Or.inl rfl) rfl rfl ?_
  refine ab_aload_n (i := 1) d_Acts_takeBack_55 rfl rfl ?_
  refine ab_aload_n (i := 0) d_Acts_takeBack_56 rfl rfl ?_
  refine ab_getR (ci := 0) (k := 2) (j := kx_now_acts_sounds) d_Acts_takeBack_57 v_275 rfl (by decide) (by decide) rfl r_kx_now_acts_2 ?_
  refine ab_iload_n (i := 2) d_Acts_takeBack_60 rfl rfl ?_
  refine ab_iald d_Acts_takeBack_61 rfl rfl g3 ?_
  refine ab_putI (ci := 1) (k := 2) d_Acts_takeBack_62 v_201 rfl (by decide) (by decide) rfl (Or.inl rfl) rfl rfl ?_
  refine ab_aload_n (i := 1) d_Acts_takeBack_65 rfl rfl ?_
  obtain ⟨I5, hC, h⟩ := h
  refine ab_callV (me2 := mt_Cables_sort) (b := kx_now_cables) (as := []) (st := []) (rv := none) (M2 := (I5, L, ab_RR, n, nc, ns)) d_Acts_takeBack_66 ce_Cables_sort v_650 v_592 v_593 (by decide) rfl (Nat.le_of_ble_eq_true rfl) hC (Nat.le_refl _) (Nat.le_refl _) hc hs (fun j h9 => by cases h9) (fun _ _ => rfl) ?_
  show ab_E w (d + 1) mt_Acts_takeBack 69 [.ref kx_now_acts, .ref kx_now_cables, .int (((I kx_now_acts 4) + (ab_max32 0 ((I kx_now_acts 5) - 1))) - ((I kx_now_acts 4) + (ab_max32 0 ((I kx_now_acts 5) - 1))) / 40 * 40)] [] (I5, L, ab_RR, n, nc, ns) res
  refine ab_aload_n (i := 0) d_Acts_takeBack_69 rfl rfl ?_
  refine ab_getR (ci := 0) (k := 3) (j := kx_now_acts_swaps) d_Acts_takeBack_70 v_276 rfl (by decide) (by decide) rfl r_kx_now_acts_3 ?_
  refine ab_iload_n (i := 2) d_Acts_takeBack_73 rfl rfl ?_
  refine ab_iald d_Acts_takeBack_74 rfl rfl g3 ?_
  exact ab_iret (ty := .int) d_Acts_takeBack_75 rfl rfl h
theorem d_Acts_clear_0 : decode (ab_bc mt_Acts_clear) 0 = .ok (.aload_n 0, 1) := by decide +kernel
theorem d_Acts_clear_1 : decode (ab_bc mt_Acts_clear) 1 = .ok (.iconst 0, 1) := by decide +kernel
theorem d_Acts_clear_2 : decode (ab_bc mt_Acts_clear) 2 = .ok (.putfield 24, 3) := by decide +kernel
theorem d_Acts_clear_5 : decode (ab_bc mt_Acts_clear) 5 = .ok (.aload_n 0, 1) := by decide +kernel
theorem d_Acts_clear_6 : decode (ab_bc mt_Acts_clear) 6 = .ok (.iconst 0, 1) := by decide +kernel
theorem d_Acts_clear_7 : decode (ab_bc mt_Acts_clear) 7 = .ok (.putfield 28, 3) := by decide +kernel
theorem d_Acts_clear_10 : decode (ab_bc mt_Acts_clear) 10 = .ok (.return_, 1) := by decide +kernel
-- CableKeeper$Acts.clear()V over kx_now_acts
theorem q_Acts_clear_0 {w : ab_Wd} {d n nc ns : Nat} {I : Nat → Nat → Int32} {L : Nat → Nat → Int64} {res : ab_Re}  (hc : nc ≤ res.2.2.2.2.2.1) (hs : ns ≤ res.2.2.2.2.2.2)
    (h : res = (.inl none, ((ab_up (ab_up I kx_now_acts 4 0) kx_now_acts 5 0), L, ab_RR, n, nc, ns))) : ab_E w d mt_Acts_clear 0 [.ref kx_now_acts] [] (I, L, ab_RR, n, nc, ns) res := by
  refine ab_aload_n (i := 0) d_Acts_clear_0 rfl rfl ?_
  refine ab_iconst (v := 0) d_Acts_clear_1 rfl ?_
  refine ab_putI (ci := 0) (k := 4) d_Acts_clear_2 v_277 rfl (by decide) (by decide) rfl (Or.inl rfl) rfl rfl ?_
  refine ab_aload_n (i := 0) d_Acts_clear_5 rfl rfl ?_
  refine ab_iconst (v := 0) d_Acts_clear_6 rfl ?_
  refine ab_putI (ci := 0) (k := 5) d_Acts_clear_7 v_278 rfl (by decide) (by decide) rfl (Or.inl rfl) rfl rfl ?_
  exact ab_vret d_Acts_clear_10 rfl h
theorem d_Acts_keep_0 : decode (ab_bc mt_Acts_keep) 0 = .ok (.aload_n 0, 1) := by decide +kernel
theorem d_Acts_keep_1 : decode (ab_bc mt_Acts_keep) 1 = .ok (.getfield 28, 3) := by decide +kernel
theorem d_Acts_keep_4 : decode (ab_bc mt_Acts_keep) 4 = .ok (.bipush 40, 2) := by decide +kernel
theorem d_Acts_keep_6 : decode (ab_bc mt_Acts_keep) 6 = .ok (.if_icmp .ne 26, 3) := by decide +kernel
theorem d_Acts_keep_9 : decode (ab_bc mt_Acts_keep) 9 = .ok (.aload_n 0, 1) := by decide +kernel
theorem d_Acts_keep_10 : decode (ab_bc mt_Acts_keep) 10 = .ok (.aload_n 0, 1) := by decide +kernel
theorem d_Acts_keep_11 : decode (ab_bc mt_Acts_keep) 11 = .ok (.getfield 24, 3) := by decide +kernel
theorem d_Acts_keep_14 : decode (ab_bc mt_Acts_keep) 14 = .ok (.iconst 1, 1) := by decide +kernel
theorem d_Acts_keep_15 : decode (ab_bc mt_Acts_keep) 15 = .ok (.iadd, 1) := by decide +kernel
theorem d_Acts_keep_16 : decode (ab_bc mt_Acts_keep) 16 = .ok (.bipush 40, 2) := by decide +kernel
theorem d_Acts_keep_18 : decode (ab_bc mt_Acts_keep) 18 = .ok (.irem, 1) := by decide +kernel
theorem d_Acts_keep_19 : decode (ab_bc mt_Acts_keep) 19 = .ok (.putfield 24, 3) := by decide +kernel
theorem d_Acts_keep_22 : decode (ab_bc mt_Acts_keep) 22 = .ok (.aload_n 0, 1) := by decide +kernel
theorem d_Acts_keep_23 : decode (ab_bc mt_Acts_keep) 23 = .ok (.dup, 1) := by decide +kernel
theorem d_Acts_keep_24 : decode (ab_bc mt_Acts_keep) 24 = .ok (.getfield 28, 3) := by decide +kernel
theorem d_Acts_keep_27 : decode (ab_bc mt_Acts_keep) 27 = .ok (.iconst 1, 1) := by decide +kernel
theorem d_Acts_keep_28 : decode (ab_bc mt_Acts_keep) 28 = .ok (.isub, 1) := by decide +kernel
theorem d_Acts_keep_29 : decode (ab_bc mt_Acts_keep) 29 = .ok (.putfield 28, 3) := by decide +kernel
theorem d_Acts_keep_32 : decode (ab_bc mt_Acts_keep) 32 = .ok (.aload_n 0, 1) := by decide +kernel
theorem d_Acts_keep_33 : decode (ab_bc mt_Acts_keep) 33 = .ok (.getfield 24, 3) := by decide +kernel
theorem d_Acts_keep_36 : decode (ab_bc mt_Acts_keep) 36 = .ok (.aload_n 0, 1) := by decide +kernel
theorem d_Acts_keep_37 : decode (ab_bc mt_Acts_keep) 37 = .ok (.getfield 28, 3) := by decide +kernel
theorem d_Acts_keep_40 : decode (ab_bc mt_Acts_keep) 40 = .ok (.iadd, 1) := by decide +kernel
theorem d_Acts_keep_41 : decode (ab_bc mt_Acts_keep) 41 = .ok (.bipush 40, 2) := by decide +kernel
theorem d_Acts_keep_43 : decode (ab_bc mt_Acts_keep) 43 = .ok (.irem, 1) := by decide +kernel
theorem d_Acts_keep_44 : decode (ab_bc mt_Acts_keep) 44 = .ok (.istore_n 3, 1) := by decide +kernel
theorem d_Acts_keep_45 : decode (ab_bc mt_Acts_keep) 45 = .ok (.aload_n 1, 1) := by decide +kernel
theorem d_Acts_keep_46 : decode (ab_bc mt_Acts_keep) 46 = .ok (.getfield 37, 3) := by decide +kernel
theorem d_Acts_keep_49 : decode (ab_bc mt_Acts_keep) 49 = .ok (.iconst 0, 1) := by decide +kernel
theorem d_Acts_keep_50 : decode (ab_bc mt_Acts_keep) 50 = .ok (.aload_n 0, 1) := by decide +kernel
theorem d_Acts_keep_51 : decode (ab_bc mt_Acts_keep) 51 = .ok (.getfield 11, 3) := by decide +kernel
theorem d_Acts_keep_54 : decode (ab_bc mt_Acts_keep) 54 = .ok (.iload_n 3, 1) := by decide +kernel
theorem d_Acts_keep_55 : decode (ab_bc mt_Acts_keep) 55 = .ok (.bipush 24, 2) := by decide +kernel
theorem d_Acts_keep_57 : decode (ab_bc mt_Acts_keep) 57 = .ok (.imul, 1) := by decide +kernel
theorem d_Acts_keep_58 : decode (ab_bc mt_Acts_keep) 58 = .ok (.bipush 24, 2) := by decide +kernel
theorem d_Acts_keep_60 : decode (ab_bc mt_Acts_keep) 60 = .ok (.invokestatic 31, 3) := by decide +kernel
theorem d_Acts_keep_63 : decode (ab_bc mt_Acts_keep) 63 = .ok (.aload_n 0, 1) := by decide +kernel
theorem d_Acts_keep_64 : decode (ab_bc mt_Acts_keep) 64 = .ok (.getfield 15, 3) := by decide +kernel
theorem d_Acts_keep_67 : decode (ab_bc mt_Acts_keep) 67 = .ok (.iload_n 3, 1) := by decide +kernel
theorem d_Acts_keep_68 : decode (ab_bc mt_Acts_keep) 68 = .ok (.aload_n 1, 1) := by decide +kernel
theorem d_Acts_keep_69 : decode (ab_bc mt_Acts_keep) 69 = .ok (.getfield 42, 3) := by decide +kernel
theorem d_Acts_keep_72 : decode (ab_bc mt_Acts_keep) 72 = .ok (.iastore, 1) := by decide +kernel
theorem d_Acts_keep_73 : decode (ab_bc mt_Acts_keep) 73 = .ok (.aload_n 0, 1) := by decide +kernel
theorem d_Acts_keep_74 : decode (ab_bc mt_Acts_keep) 74 = .ok (.getfield 18, 3) := by decide +kernel
theorem d_Acts_keep_77 : decode (ab_bc mt_Acts_keep) 77 = .ok (.iload_n 3, 1) := by decide +kernel
theorem d_Acts_keep_78 : decode (ab_bc mt_Acts_keep) 78 = .ok (.aload_n 1, 1) := by decide +kernel
theorem d_Acts_keep_79 : decode (ab_bc mt_Acts_keep) 79 = .ok (.getfield 45, 3) := by decide +kernel
theorem d_Acts_keep_82 : decode (ab_bc mt_Acts_keep) 82 = .ok (.iastore, 1) := by decide +kernel
theorem d_Acts_keep_83 : decode (ab_bc mt_Acts_keep) 83 = .ok (.aload_n 0, 1) := by decide +kernel
theorem d_Acts_keep_84 : decode (ab_bc mt_Acts_keep) 84 = .ok (.getfield 21, 3) := by decide +kernel
theorem d_Acts_keep_87 : decode (ab_bc mt_Acts_keep) 87 = .ok (.iload_n 3, 1) := by decide +kernel
theorem d_Acts_keep_88 : decode (ab_bc mt_Acts_keep) 88 = .ok (.iload_n 2, 1) := by decide +kernel
theorem d_Acts_keep_89 : decode (ab_bc mt_Acts_keep) 89 = .ok (.iastore, 1) := by decide +kernel
theorem d_Acts_keep_90 : decode (ab_bc mt_Acts_keep) 90 = .ok (.aload_n 0, 1) := by decide +kernel
theorem d_Acts_keep_91 : decode (ab_bc mt_Acts_keep) 91 = .ok (.dup, 1) := by decide +kernel
theorem d_Acts_keep_92 : decode (ab_bc mt_Acts_keep) 92 = .ok (.getfield 28, 3) := by decide +kernel
theorem d_Acts_keep_95 : decode (ab_bc mt_Acts_keep) 95 = .ok (.iconst 1, 1) := by decide +kernel
theorem d_Acts_keep_96 : decode (ab_bc mt_Acts_keep) 96 = .ok (.iadd, 1) := by decide +kernel
theorem d_Acts_keep_97 : decode (ab_bc mt_Acts_keep) 97 = .ok (.putfield 28, 3) := by decide +kernel
theorem d_Acts_keep_100 : decode (ab_bc mt_Acts_keep) 100 = .ok (.return_, 1) := by decide +kernel
-- CableKeeper$Acts.keep(LCableKeeper$Cables;I)V over kx_now_acts, kx_now_cables
theorem q_Acts_keep_0 {w : ab_Wd} {d n nc ns : Nat} {I : Nat → Nat → Int32} {L : Nat → Nat → Int64} {res : ab_Re} (v2 : Int32) (hc : nc ≤ res.2.2.2.2.2.1) (hs : ns ≤ res.2.2.2.2.2.2)
    (h : ((¬ (I kx_now_acts 5) = 40 → (ab_E w (d + 1) mt_Acts_keep 32 [.ref kx_now_acts, .ref kx_now_cables, .int v2, .null] [] (I, L, ab_RR, n, nc, ns) res)) ∧ ((I kx_now_acts 5) = 40 → (ab_E w (d + 1) mt_Acts_keep 32 [.ref kx_now_acts, .ref kx_now_cables, .int v2, .null] [] ((ab_up (ab_up I kx_now_acts 4 (((I kx_now_acts 4) + 1) - ((I kx_now_acts 4) + 1) / 40 * 40)) kx_now_acts 5 ((I kx_now_acts 5) - 1)), L, ab_RR, n, nc, ns) res)))) : ab_E w (d + 1) mt_Acts_keep 0 [.ref kx_now_acts, .ref kx_now_cables, .int v2, .null] [] (I, L, ab_RR, n, nc, ns) res := by
  refine ab_aload_n (i := 0) d_Acts_keep_0 rfl rfl ?_
  refine ab_getI (ci := 0) (k := 5) d_Acts_keep_1 v_278 rfl (by decide) (by decide) rfl ?_
  refine ab_bipush (v := 40) d_Acts_keep_4 rfl ?_
  refine ab_icmp_ne (tgt := 32) d_Acts_keep_6 (by decide) (fun c1 => ?_) (fun c1 => ?_)
  · have h := h.1 c1
    exact h
  · have h := h.2 c1
    refine ab_aload_n (i := 0) d_Acts_keep_9 rfl rfl ?_
    refine ab_aload_n (i := 0) d_Acts_keep_10 rfl rfl ?_
    refine ab_getI (ci := 0) (k := 4) d_Acts_keep_11 v_277 rfl (by decide) (by decide) rfl ?_
    refine ab_iconst (v := 1) d_Acts_keep_14 rfl ?_
    refine ab_iadd d_Acts_keep_15 ?_
    refine ab_bipush (v := 40) d_Acts_keep_16 rfl ?_
    refine ab_irem d_Acts_keep_18 (by decide) ?_
    refine ab_putI (ci := 0) (k := 4) d_Acts_keep_19 v_277 rfl (by decide) (by decide) rfl (Or.inl rfl) rfl rfl ?_
    refine ab_aload_n (i := 0) d_Acts_keep_22 rfl rfl ?_
    refine ab_dupr d_Acts_keep_23 ?_
    refine ab_getI (ci := 0) (k := 5) d_Acts_keep_24 v_278 rfl (by decide) (by decide) rfl ?_
    refine ab_iconst (v := 1) d_Acts_keep_27 rfl ?_
    refine ab_isub d_Acts_keep_28 ?_
    refine ab_putI (ci := 0) (k := 5) d_Acts_keep_29 v_278 rfl (by decide) (by decide) rfl (Or.inl rfl) rfl rfl ?_
    exact h
theorem q_Acts_keep_32 {w : ab_Wd} {d n nc ns : Nat} {I : Nat → Nat → Int32} {L : Nat → Nat → Int64} {res : ab_Re} (v2 : Int32) (hc : nc ≤ res.2.2.2.2.2.1) (hs : ns ≤ res.2.2.2.2.2.2)
    (h : (¬ ((((I kx_now_acts 4) + (I kx_now_acts 5)) - ((I kx_now_acts 4) + (I kx_now_acts 5)) / 40 * 40) * 24) < 0) ∧ (((((I kx_now_acts 4) + (I kx_now_acts 5)) - ((I kx_now_acts 4) + (I kx_now_acts 5)) / 40 * 40) * 24).toNatClampNeg + 24 ≤ 960) ∧ (vp_in (((I kx_now_acts 4) + (I kx_now_acts 5)) - ((I kx_now_acts 4) + (I kx_now_acts 5)) / 40 * 40) 40) ∧ res = (.inl none, ((ab_up (ab_up (ab_up (ab_up (ab_row I kx_now_acts_prices (va_cpy (I kx_now_cables_price) (I kx_now_acts_prices) 0 ((((I kx_now_acts 4) + (I kx_now_acts 5)) - ((I kx_now_acts 4) + (I kx_now_acts 5)) / 40 * 40) * 24).toNatClampNeg 24)) kx_now_acts_counts (((I kx_now_acts 4) + (I kx_now_acts 5)) - ((I kx_now_acts 4) + (I kx_now_acts 5)) / 40 * 40).toNatClampNeg (I kx_now_cables 1)) kx_now_acts_sounds (((I kx_now_acts 4) + (I kx_now_acts 5)) - ((I kx_now_acts 4) + (I kx_now_acts 5)) / 40 * 40).toNatClampNeg (I kx_now_cables 2)) kx_now_acts_swaps (((I kx_now_acts 4) + (I kx_now_acts 5)) - ((I kx_now_acts 4) + (I kx_now_acts 5)) / 40 * 40).toNatClampNeg v2) kx_now_acts 5 ((I kx_now_acts 5) + 1)), L, ab_RR, n, nc, ns))) : ab_E w (d + 1) mt_Acts_keep 32 [.ref kx_now_acts, .ref kx_now_cables, .int v2, .null] [] (I, L, ab_RR, n, nc, ns) res := by
  refine ab_aload_n (i := 0) d_Acts_keep_32 rfl rfl ?_
  refine ab_getI (ci := 0) (k := 4) d_Acts_keep_33 v_277 rfl (by decide) (by decide) rfl ?_
  refine ab_aload_n (i := 0) d_Acts_keep_36 rfl rfl ?_
  refine ab_getI (ci := 0) (k := 5) d_Acts_keep_37 v_278 rfl (by decide) (by decide) rfl ?_
  refine ab_iadd d_Acts_keep_40 ?_
  refine ab_bipush (v := 40) d_Acts_keep_41 rfl ?_
  refine ab_irem d_Acts_keep_43 (by decide) ?_
  refine ab_istore_n (i := 3) d_Acts_keep_44 rfl (by decide) (Or.inr rfl) ?_
  refine ab_aload_n (i := 1) d_Acts_keep_45 rfl rfl ?_
  refine ab_getR (ci := 1) (k := 5) (j := kx_now_cables_price) d_Acts_keep_46 v_222 rfl (by decide) (by decide) rfl r_kx_now_cables_5 ?_
  refine ab_iconst (v := 0) d_Acts_keep_49 rfl ?_
  refine ab_aload_n (i := 0) d_Acts_keep_50 rfl rfl ?_
  refine ab_getR (ci := 0) (k := 0) (j := kx_now_acts_prices) d_Acts_keep_51 v_273 rfl (by decide) (by decide) rfl r_kx_now_acts_0 ?_
  refine ab_iload_n (i := 3) d_Acts_keep_54 rfl rfl ?_
  refine ab_bipush (v := 24) d_Acts_keep_55 rfl ?_
  refine ab_imul d_Acts_keep_57 ?_
  refine ab_bipush (v := 24) d_Acts_keep_58 rfl ?_
  have g1 := h.1; have h := h.2
  have g2 := h.1; have h := h.2
  refine ab_copy d_Acts_keep_60 v_586 v_562 v_561 v_161 rfl rfl rfl rfl (by decide) g1 (by decide) (by decide) g2 (Nat.succ_le_succ (Nat.zero_le _)) (Nat.le_of_ble_eq_true rfl) ?_
  refine ab_aload_n (i := 0) d_Acts_keep_63 rfl rfl ?_
  refine ab_getR (ci := 0) (k := 1) (j := kx_now_acts_counts) d_Acts_keep_64 v_274 rfl (by decide) (by decide) rfl r_kx_now_acts_1 ?_
  refine ab_iload_n (i := 3) d_Acts_keep_67 rfl rfl ?_
  refine ab_aload_n (i := 1) d_Acts_keep_68 rfl rfl ?_
  refine ab_getI (ci := 1) (k := 1) d_Acts_keep_69 v_197 rfl (by decide) (by decide) rfl ?_
  have g3 := h.1; have h := h.2
  refine ab_iast d_Acts_keep_72 rfl rfl g3 ?_
  refine ab_aload_n (i := 0) d_Acts_keep_73 rfl rfl ?_
  refine ab_getR (ci := 0) (k := 2) (j := kx_now_acts_sounds) d_Acts_keep_74 v_275 rfl (by decide) (by decide) rfl r_kx_now_acts_2 ?_
  refine ab_iload_n (i := 3) d_Acts_keep_77 rfl rfl ?_
  refine ab_aload_n (i := 1) d_Acts_keep_78 rfl rfl ?_
  refine ab_getI (ci := 1) (k := 2) d_Acts_keep_79 v_201 rfl (by decide) (by decide) rfl ?_
  refine ab_iast d_Acts_keep_82 rfl rfl g3 ?_
  refine ab_aload_n (i := 0) d_Acts_keep_83 rfl rfl ?_
  refine ab_getR (ci := 0) (k := 3) (j := kx_now_acts_swaps) d_Acts_keep_84 v_276 rfl (by decide) (by decide) rfl r_kx_now_acts_3 ?_
  refine ab_iload_n (i := 3) d_Acts_keep_87 rfl rfl ?_
  refine ab_iload_n (i := 2) d_Acts_keep_88 rfl rfl ?_
  refine ab_iast d_Acts_keep_89 rfl rfl g3 ?_
  refine ab_aload_n (i := 0) d_Acts_keep_90 rfl rfl ?_
  refine ab_dupr d_Acts_keep_91 ?_
  refine ab_getI (ci := 0) (k := 5) d_Acts_keep_92 v_278 rfl (by decide) (by decide) rfl ?_
  refine ab_iconst (v := 1) d_Acts_keep_95 rfl ?_
  refine ab_iadd d_Acts_keep_96 ?_
  refine ab_putI (ci := 0) (k := 5) d_Acts_keep_97 v_278 rfl (by decide) (by decide) rfl (Or.inl rfl) rfl rfl ?_
  exact ab_vret d_Acts_keep_100 rfl h
theorem d_Acts_copy_0 : decode (ab_bc mt_Acts_copy) 0 = .ok (.aload_n 1, 1) := by decide +kernel
theorem d_Acts_copy_1 : decode (ab_bc mt_Acts_copy) 1 = .ok (.getfield 11, 3) := by decide +kernel
theorem d_Acts_copy_4 : decode (ab_bc mt_Acts_copy) 4 = .ok (.iconst 0, 1) := by decide +kernel
theorem d_Acts_copy_5 : decode (ab_bc mt_Acts_copy) 5 = .ok (.aload_n 0, 1) := by decide +kernel
theorem d_Acts_copy_6 : decode (ab_bc mt_Acts_copy) 6 = .ok (.getfield 11, 3) := by decide +kernel
theorem d_Acts_copy_9 : decode (ab_bc mt_Acts_copy) 9 = .ok (.iconst 0, 1) := by decide +kernel
theorem d_Acts_copy_10 : decode (ab_bc mt_Acts_copy) 10 = .ok (.aload_n 0, 1) := by decide +kernel
theorem d_Acts_copy_11 : decode (ab_bc mt_Acts_copy) 11 = .ok (.getfield 11, 3) := by decide +kernel
theorem d_Acts_copy_14 : decode (ab_bc mt_Acts_copy) 14 = .ok (.arraylength, 1) := by decide +kernel
theorem d_Acts_copy_15 : decode (ab_bc mt_Acts_copy) 15 = .ok (.invokestatic 31, 3) := by decide +kernel
theorem d_Acts_copy_18 : decode (ab_bc mt_Acts_copy) 18 = .ok (.aload_n 1, 1) := by decide +kernel
theorem d_Acts_copy_19 : decode (ab_bc mt_Acts_copy) 19 = .ok (.getfield 15, 3) := by decide +kernel
theorem d_Acts_copy_22 : decode (ab_bc mt_Acts_copy) 22 = .ok (.iconst 0, 1) := by decide +kernel
theorem d_Acts_copy_23 : decode (ab_bc mt_Acts_copy) 23 = .ok (.aload_n 0, 1) := by decide +kernel
theorem d_Acts_copy_24 : decode (ab_bc mt_Acts_copy) 24 = .ok (.getfield 15, 3) := by decide +kernel
theorem d_Acts_copy_27 : decode (ab_bc mt_Acts_copy) 27 = .ok (.iconst 0, 1) := by decide +kernel
theorem d_Acts_copy_28 : decode (ab_bc mt_Acts_copy) 28 = .ok (.bipush 40, 2) := by decide +kernel
theorem d_Acts_copy_30 : decode (ab_bc mt_Acts_copy) 30 = .ok (.invokestatic 31, 3) := by decide +kernel
theorem d_Acts_copy_33 : decode (ab_bc mt_Acts_copy) 33 = .ok (.aload_n 1, 1) := by decide +kernel
theorem d_Acts_copy_34 : decode (ab_bc mt_Acts_copy) 34 = .ok (.getfield 18, 3) := by decide +kernel
theorem d_Acts_copy_37 : decode (ab_bc mt_Acts_copy) 37 = .ok (.iconst 0, 1) := by decide +kernel
theorem d_Acts_copy_38 : decode (ab_bc mt_Acts_copy) 38 = .ok (.aload_n 0, 1) := by decide +kernel
theorem d_Acts_copy_39 : decode (ab_bc mt_Acts_copy) 39 = .ok (.getfield 18, 3) := by decide +kernel
theorem d_Acts_copy_42 : decode (ab_bc mt_Acts_copy) 42 = .ok (.iconst 0, 1) := by decide +kernel
theorem d_Acts_copy_43 : decode (ab_bc mt_Acts_copy) 43 = .ok (.bipush 40, 2) := by decide +kernel
theorem d_Acts_copy_45 : decode (ab_bc mt_Acts_copy) 45 = .ok (.invokestatic 31, 3) := by decide +kernel
theorem d_Acts_copy_48 : decode (ab_bc mt_Acts_copy) 48 = .ok (.aload_n 1, 1) := by decide +kernel
theorem d_Acts_copy_49 : decode (ab_bc mt_Acts_copy) 49 = .ok (.getfield 21, 3) := by decide +kernel
theorem d_Acts_copy_52 : decode (ab_bc mt_Acts_copy) 52 = .ok (.iconst 0, 1) := by decide +kernel
theorem d_Acts_copy_53 : decode (ab_bc mt_Acts_copy) 53 = .ok (.aload_n 0, 1) := by decide +kernel
theorem d_Acts_copy_54 : decode (ab_bc mt_Acts_copy) 54 = .ok (.getfield 21, 3) := by decide +kernel
theorem d_Acts_copy_57 : decode (ab_bc mt_Acts_copy) 57 = .ok (.iconst 0, 1) := by decide +kernel
theorem d_Acts_copy_58 : decode (ab_bc mt_Acts_copy) 58 = .ok (.bipush 40, 2) := by decide +kernel
theorem d_Acts_copy_60 : decode (ab_bc mt_Acts_copy) 60 = .ok (.invokestatic 31, 3) := by decide +kernel
theorem d_Acts_copy_63 : decode (ab_bc mt_Acts_copy) 63 = .ok (.aload_n 0, 1) := by decide +kernel
theorem d_Acts_copy_64 : decode (ab_bc mt_Acts_copy) 64 = .ok (.aload_n 1, 1) := by decide +kernel
theorem d_Acts_copy_65 : decode (ab_bc mt_Acts_copy) 65 = .ok (.getfield 24, 3) := by decide +kernel
theorem d_Acts_copy_68 : decode (ab_bc mt_Acts_copy) 68 = .ok (.putfield 24, 3) := by decide +kernel
theorem d_Acts_copy_71 : decode (ab_bc mt_Acts_copy) 71 = .ok (.aload_n 0, 1) := by decide +kernel
theorem d_Acts_copy_72 : decode (ab_bc mt_Acts_copy) 72 = .ok (.aload_n 1, 1) := by decide +kernel
theorem d_Acts_copy_73 : decode (ab_bc mt_Acts_copy) 73 = .ok (.getfield 28, 3) := by decide +kernel
theorem d_Acts_copy_76 : decode (ab_bc mt_Acts_copy) 76 = .ok (.putfield 28, 3) := by decide +kernel
theorem d_Acts_copy_79 : decode (ab_bc mt_Acts_copy) 79 = .ok (.return_, 1) := by decide +kernel
-- CableKeeper$Acts.copy(LCableKeeper$Acts;)V over kx_kept_acts, kx_now_acts
theorem q_Acts_copy_0_0 {w : ab_Wd} {d n nc ns : Nat} {I : Nat → Nat → Int32} {L : Nat → Nat → Int64} {res : ab_Re}  (hc : nc ≤ res.2.2.2.2.2.1) (hs : ns ≤ res.2.2.2.2.2.2)
    (h : res = (.inl none, ((ab_up (ab_up (ab_row (ab_row (ab_row (ab_row I kx_kept_acts_prices (va_cpy (I kx_now_acts_prices) (I kx_kept_acts_prices) 0 0 960)) kx_kept_acts_counts (va_cpy (I kx_now_acts_counts) (I kx_kept_acts_counts) 0 0 40)) kx_kept_acts_sounds (va_cpy (I kx_now_acts_sounds) (I kx_kept_acts_sounds) 0 0 40)) kx_kept_acts_swaps (va_cpy (I kx_now_acts_swaps) (I kx_kept_acts_swaps) 0 0 40)) kx_kept_acts 4 (I kx_now_acts 4)) kx_kept_acts 5 (I kx_now_acts 5)), L, ab_RR, n, nc, ns))) : ab_E w (d + 1) mt_Acts_copy 0 [.ref kx_kept_acts, .ref kx_now_acts] [] (I, L, ab_RR, n, nc, ns) res := by
  refine ab_aload_n (i := 1) d_Acts_copy_0 rfl rfl ?_
  refine ab_getR (ci := 0) (k := 0) (j := kx_now_acts_prices) d_Acts_copy_1 v_273 rfl (by decide) (by decide) rfl r_kx_now_acts_0 ?_
  refine ab_iconst (v := 0) d_Acts_copy_4 rfl ?_
  refine ab_aload_n (i := 0) d_Acts_copy_5 rfl rfl ?_
  refine ab_getR (ci := 0) (k := 0) (j := kx_kept_acts_prices) d_Acts_copy_6 v_273 rfl (by decide) (by decide) rfl r_kx_kept_acts_0 ?_
  refine ab_iconst (v := 0) d_Acts_copy_9 rfl ?_
  refine ab_aload_n (i := 0) d_Acts_copy_10 rfl rfl ?_
  refine ab_getR (ci := 0) (k := 0) (j := kx_kept_acts_prices) d_Acts_copy_11 v_273 rfl (by decide) (by decide) rfl r_kx_kept_acts_0 ?_
  refine ab_alen (v := 960) d_Acts_copy_14 (by decide) (by decide) rfl ?_
  refine ab_copy d_Acts_copy_15 v_586 v_562 v_561 v_161 rfl rfl rfl rfl (by decide) (by decide) (by decide) (by decide) (by decide) (Nat.succ_le_succ (Nat.zero_le _)) (Nat.le_of_ble_eq_true rfl) ?_
  refine ab_aload_n (i := 1) d_Acts_copy_18 rfl rfl ?_
  refine ab_getR (ci := 0) (k := 1) (j := kx_now_acts_counts) d_Acts_copy_19 v_274 rfl (by decide) (by decide) rfl r_kx_now_acts_1 ?_
  refine ab_iconst (v := 0) d_Acts_copy_22 rfl ?_
  refine ab_aload_n (i := 0) d_Acts_copy_23 rfl rfl ?_
  refine ab_getR (ci := 0) (k := 1) (j := kx_kept_acts_counts) d_Acts_copy_24 v_274 rfl (by decide) (by decide) rfl r_kx_kept_acts_1 ?_
  refine ab_iconst (v := 0) d_Acts_copy_27 rfl ?_
  refine ab_bipush (v := 40) d_Acts_copy_28 rfl ?_
  refine ab_copy d_Acts_copy_30 v_586 v_562 v_561 v_161 rfl rfl rfl rfl (by decide) (by decide) (by decide) (by decide) (by decide) (Nat.succ_le_succ (Nat.zero_le _)) (Nat.le_of_ble_eq_true rfl) ?_
  refine ab_aload_n (i := 1) d_Acts_copy_33 rfl rfl ?_
  refine ab_getR (ci := 0) (k := 2) (j := kx_now_acts_sounds) d_Acts_copy_34 v_275 rfl (by decide) (by decide) rfl r_kx_now_acts_2 ?_
  refine ab_iconst (v := 0) d_Acts_copy_37 rfl ?_
  refine ab_aload_n (i := 0) d_Acts_copy_38 rfl rfl ?_
  refine ab_getR (ci := 0) (k := 2) (j := kx_kept_acts_sounds) d_Acts_copy_39 v_275 rfl (by decide) (by decide) rfl r_kx_kept_acts_2 ?_
  refine ab_iconst (v := 0) d_Acts_copy_42 rfl ?_
  refine ab_bipush (v := 40) d_Acts_copy_43 rfl ?_
  refine ab_copy d_Acts_copy_45 v_586 v_562 v_561 v_161 rfl rfl rfl rfl (by decide) (by decide) (by decide) (by decide) (by decide) (Nat.succ_le_succ (Nat.zero_le _)) (Nat.le_of_ble_eq_true rfl) ?_
  refine ab_aload_n (i := 1) d_Acts_copy_48 rfl rfl ?_
  refine ab_getR (ci := 0) (k := 3) (j := kx_now_acts_swaps) d_Acts_copy_49 v_276 rfl (by decide) (by decide) rfl r_kx_now_acts_3 ?_
  refine ab_iconst (v := 0) d_Acts_copy_52 rfl ?_
  refine ab_aload_n (i := 0) d_Acts_copy_53 rfl rfl ?_
  refine ab_getR (ci := 0) (k := 3) (j := kx_kept_acts_swaps) d_Acts_copy_54 v_276 rfl (by decide) (by decide) rfl r_kx_kept_acts_3 ?_
  refine ab_iconst (v := 0) d_Acts_copy_57 rfl ?_
  refine ab_bipush (v := 40) d_Acts_copy_58 rfl ?_
  refine ab_copy d_Acts_copy_60 v_586 v_562 v_561 v_161 rfl rfl rfl rfl (by decide) (by decide) (by decide) (by decide) (by decide) (Nat.succ_le_succ (Nat.zero_le _)) (Nat.le_of_ble_eq_true rfl) ?_
  refine ab_aload_n (i := 0) d_Acts_copy_63 rfl rfl ?_
  refine ab_aload_n (i := 1) d_Acts_copy_64 rfl rfl ?_
  refine ab_getI (ci := 0) (k := 4) d_Acts_copy_65 v_277 rfl (by decide) (by decide) rfl ?_
  refine ab_putI (ci := 0) (k := 4) d_Acts_copy_68 v_277 rfl (by decide) (by decide) rfl (Or.inl rfl) rfl rfl ?_
  refine ab_aload_n (i := 0) d_Acts_copy_71 rfl rfl ?_
  refine ab_aload_n (i := 1) d_Acts_copy_72 rfl rfl ?_
  refine ab_getI (ci := 0) (k := 5) d_Acts_copy_73 v_278 rfl (by decide) (by decide) rfl ?_
  refine ab_putI (ci := 0) (k := 5) d_Acts_copy_76 v_278 rfl (by decide) (by decide) rfl (Or.inl rfl) rfl rfl ?_
  exact ab_vret d_Acts_copy_79 rfl h
-- CableKeeper$Acts.copy(LCableKeeper$Acts;)V over kx_now_acts, kx_kept_acts
theorem q_Acts_copy_1_0 {w : ab_Wd} {d n nc ns : Nat} {I : Nat → Nat → Int32} {L : Nat → Nat → Int64} {res : ab_Re}  (hc : nc ≤ res.2.2.2.2.2.1) (hs : ns ≤ res.2.2.2.2.2.2)
    (h : res = (.inl none, ((ab_up (ab_up (ab_row (ab_row (ab_row (ab_row I kx_now_acts_prices (va_cpy (I kx_kept_acts_prices) (I kx_now_acts_prices) 0 0 960)) kx_now_acts_counts (va_cpy (I kx_kept_acts_counts) (I kx_now_acts_counts) 0 0 40)) kx_now_acts_sounds (va_cpy (I kx_kept_acts_sounds) (I kx_now_acts_sounds) 0 0 40)) kx_now_acts_swaps (va_cpy (I kx_kept_acts_swaps) (I kx_now_acts_swaps) 0 0 40)) kx_now_acts 4 (I kx_kept_acts 4)) kx_now_acts 5 (I kx_kept_acts 5)), L, ab_RR, n, nc, ns))) : ab_E w (d + 1) mt_Acts_copy 0 [.ref kx_now_acts, .ref kx_kept_acts] [] (I, L, ab_RR, n, nc, ns) res := by
  refine ab_aload_n (i := 1) d_Acts_copy_0 rfl rfl ?_
  refine ab_getR (ci := 0) (k := 0) (j := kx_kept_acts_prices) d_Acts_copy_1 v_273 rfl (by decide) (by decide) rfl r_kx_kept_acts_0 ?_
  refine ab_iconst (v := 0) d_Acts_copy_4 rfl ?_
  refine ab_aload_n (i := 0) d_Acts_copy_5 rfl rfl ?_
  refine ab_getR (ci := 0) (k := 0) (j := kx_now_acts_prices) d_Acts_copy_6 v_273 rfl (by decide) (by decide) rfl r_kx_now_acts_0 ?_
  refine ab_iconst (v := 0) d_Acts_copy_9 rfl ?_
  refine ab_aload_n (i := 0) d_Acts_copy_10 rfl rfl ?_
  refine ab_getR (ci := 0) (k := 0) (j := kx_now_acts_prices) d_Acts_copy_11 v_273 rfl (by decide) (by decide) rfl r_kx_now_acts_0 ?_
  refine ab_alen (v := 960) d_Acts_copy_14 (by decide) (by decide) rfl ?_
  refine ab_copy d_Acts_copy_15 v_586 v_562 v_561 v_161 rfl rfl rfl rfl (by decide) (by decide) (by decide) (by decide) (by decide) (Nat.succ_le_succ (Nat.zero_le _)) (Nat.le_of_ble_eq_true rfl) ?_
  refine ab_aload_n (i := 1) d_Acts_copy_18 rfl rfl ?_
  refine ab_getR (ci := 0) (k := 1) (j := kx_kept_acts_counts) d_Acts_copy_19 v_274 rfl (by decide) (by decide) rfl r_kx_kept_acts_1 ?_
  refine ab_iconst (v := 0) d_Acts_copy_22 rfl ?_
  refine ab_aload_n (i := 0) d_Acts_copy_23 rfl rfl ?_
  refine ab_getR (ci := 0) (k := 1) (j := kx_now_acts_counts) d_Acts_copy_24 v_274 rfl (by decide) (by decide) rfl r_kx_now_acts_1 ?_
  refine ab_iconst (v := 0) d_Acts_copy_27 rfl ?_
  refine ab_bipush (v := 40) d_Acts_copy_28 rfl ?_
  refine ab_copy d_Acts_copy_30 v_586 v_562 v_561 v_161 rfl rfl rfl rfl (by decide) (by decide) (by decide) (by decide) (by decide) (Nat.succ_le_succ (Nat.zero_le _)) (Nat.le_of_ble_eq_true rfl) ?_
  refine ab_aload_n (i := 1) d_Acts_copy_33 rfl rfl ?_
  refine ab_getR (ci := 0) (k := 2) (j := kx_kept_acts_sounds) d_Acts_copy_34 v_275 rfl (by decide) (by decide) rfl r_kx_kept_acts_2 ?_
  refine ab_iconst (v := 0) d_Acts_copy_37 rfl ?_
  refine ab_aload_n (i := 0) d_Acts_copy_38 rfl rfl ?_
  refine ab_getR (ci := 0) (k := 2) (j := kx_now_acts_sounds) d_Acts_copy_39 v_275 rfl (by decide) (by decide) rfl r_kx_now_acts_2 ?_
  refine ab_iconst (v := 0) d_Acts_copy_42 rfl ?_
  refine ab_bipush (v := 40) d_Acts_copy_43 rfl ?_
  refine ab_copy d_Acts_copy_45 v_586 v_562 v_561 v_161 rfl rfl rfl rfl (by decide) (by decide) (by decide) (by decide) (by decide) (Nat.succ_le_succ (Nat.zero_le _)) (Nat.le_of_ble_eq_true rfl) ?_
  refine ab_aload_n (i := 1) d_Acts_copy_48 rfl rfl ?_
  refine ab_getR (ci := 0) (k := 3) (j := kx_kept_acts_swaps) d_Acts_copy_49 v_276 rfl (by decide) (by decide) rfl r_kx_kept_acts_3 ?_
  refine ab_iconst (v := 0) d_Acts_copy_52 rfl ?_
  refine ab_aload_n (i := 0) d_Acts_copy_53 rfl rfl ?_
  refine ab_getR (ci := 0) (k := 3) (j := kx_now_acts_swaps) d_Acts_copy_54 v_276 rfl (by decide) (by decide) rfl r_kx_now_acts_3 ?_
  refine ab_iconst (v := 0) d_Acts_copy_57 rfl ?_
  refine ab_bipush (v := 40) d_Acts_copy_58 rfl ?_
  refine ab_copy d_Acts_copy_60 v_586 v_562 v_561 v_161 rfl rfl rfl rfl (by decide) (by decide) (by decide) (by decide) (by decide) (Nat.succ_le_succ (Nat.zero_le _)) (Nat.le_of_ble_eq_true rfl) ?_
  refine ab_aload_n (i := 0) d_Acts_copy_63 rfl rfl ?_
  refine ab_aload_n (i := 1) d_Acts_copy_64 rfl rfl ?_
  refine ab_getI (ci := 0) (k := 4) d_Acts_copy_65 v_277 rfl (by decide) (by decide) rfl ?_
  refine ab_putI (ci := 0) (k := 4) d_Acts_copy_68 v_277 rfl (by decide) (by decide) rfl (Or.inl rfl) rfl rfl ?_
  refine ab_aload_n (i := 0) d_Acts_copy_71 rfl rfl ?_
  refine ab_aload_n (i := 1) d_Acts_copy_72 rfl rfl ?_
  refine ab_getI (ci := 0) (k := 5) d_Acts_copy_73 v_278 rfl (by decide) (by decide) rfl ?_
  refine ab_putI (ci := 0) (k := 5) d_Acts_copy_76 v_278 rfl (by decide) (by decide) rfl (Or.inl rfl) rfl rfl ?_
  exact ab_vret d_Acts_copy_79 rfl h
