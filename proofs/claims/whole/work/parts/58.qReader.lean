theorem d_Reader_readBroken_0 : decode (ab_bc mt_Reader_readBroken) 0 = .ok (.aload_n 0, 1) := by decide +kernel
theorem d_Reader_readBroken_1 : decode (ab_bc mt_Reader_readBroken) 1 = .ok (.invokevirtual 46, 3) := by decide +kernel
theorem d_Reader_readBroken_4 : decode (ab_bc mt_Reader_readBroken) 4 = .ok (.aload_n 0, 1) := by decide +kernel
theorem d_Reader_readBroken_5 : decode (ab_bc mt_Reader_readBroken) 5 = .ok (.iconst 0, 1) := by decide +kernel
theorem d_Reader_readBroken_6 : decode (ab_bc mt_Reader_readBroken) 6 = .ok (.bipush 23, 2) := by decide +kernel
theorem d_Reader_readBroken_8 : decode (ab_bc mt_Reader_readBroken) 8 = .ok (.invokevirtual 79, 3) := by decide +kernel
theorem d_Reader_readBroken_11 : decode (ab_bc mt_Reader_readBroken) 11 = .ok (.istore_n 1, 1) := by decide +kernel
theorem d_Reader_readBroken_12 : decode (ab_bc mt_Reader_readBroken) 12 = .ok (.iload_n 1, 1) := by decide +kernel
theorem d_Reader_readBroken_13 : decode (ab_bc mt_Reader_readBroken) 13 = .ok (.aload_n 0, 1) := by decide +kernel
theorem d_Reader_readBroken_14 : decode (ab_bc mt_Reader_readBroken) 14 = .ok (.getfield 37, 3) := by decide +kernel
theorem d_Reader_readBroken_17 : decode (ab_bc mt_Reader_readBroken) 17 = .ok (.getfield 85, 3) := by decide +kernel
theorem d_Reader_readBroken_20 : decode (ab_bc mt_Reader_readBroken) 20 = .ok (.if_icmp .lt 11, 3) := by decide +kernel
theorem d_Reader_readBroken_23 : decode (ab_bc mt_Reader_readBroken) 23 = .ok (.aload_n 0, 1) := by decide +kernel
theorem d_Reader_readBroken_24 : decode (ab_bc mt_Reader_readBroken) 24 = .ok (.iconst 3, 1) := by decide +kernel
theorem d_Reader_readBroken_25 : decode (ab_bc mt_Reader_readBroken) 25 = .ok (.invokevirtual 75, 3) := by decide +kernel
theorem d_Reader_readBroken_28 : decode (ab_bc mt_Reader_readBroken) 28 = .ok (.goto 19, 3) := by decide +kernel
theorem d_Reader_readBroken_31 : decode (ab_bc mt_Reader_readBroken) 31 = .ok (.aload_n 0, 1) := by decide +kernel
theorem d_Reader_readBroken_32 : decode (ab_bc mt_Reader_readBroken) 32 = .ok (.getfield 37, 3) := by decide +kernel
theorem d_Reader_readBroken_35 : decode (ab_bc mt_Reader_readBroken) 35 = .ok (.iload_n 1, 1) := by decide +kernel
theorem d_Reader_readBroken_36 : decode (ab_bc mt_Reader_readBroken) 36 = .ok (.invokevirtual 96, 3) := by decide +kernel
theorem d_Reader_readBroken_39 : decode (ab_bc mt_Reader_readBroken) 39 = .ok (.ifCond .ne 8, 3) := by decide +kernel
theorem d_Reader_readBroken_42 : decode (ab_bc mt_Reader_readBroken) 42 = .ok (.aload_n 0, 1) := by decide +kernel
theorem d_Reader_readBroken_43 : decode (ab_bc mt_Reader_readBroken) 43 = .ok (.iconst 4, 1) := by decide +kernel
theorem d_Reader_readBroken_44 : decode (ab_bc mt_Reader_readBroken) 44 = .ok (.invokevirtual 75, 3) := by decide +kernel
theorem d_Reader_readBroken_47 : decode (ab_bc mt_Reader_readBroken) 47 = .ok (.aload_n 0, 1) := by decide +kernel
theorem d_Reader_readBroken_48 : decode (ab_bc mt_Reader_readBroken) 48 = .ok (.getfield 24, 3) := by decide +kernel
theorem d_Reader_readBroken_51 : decode (ab_bc mt_Reader_readBroken) 51 = .ok (.ifCond .ne 20, 3) := by decide +kernel
theorem d_Reader_readBroken_54 : decode (ab_bc mt_Reader_readBroken) 54 = .ok (.aload_n 0, 1) := by decide +kernel
theorem d_Reader_readBroken_55 : decode (ab_bc mt_Reader_readBroken) 55 = .ok (.getfield 37, 3) := by decide +kernel
theorem d_Reader_readBroken_58 : decode (ab_bc mt_Reader_readBroken) 58 = .ok (.dup, 1) := by decide +kernel
theorem d_Reader_readBroken_59 : decode (ab_bc mt_Reader_readBroken) 59 = .ok (.getfield 100, 3) := by decide +kernel
theorem d_Reader_readBroken_62 : decode (ab_bc mt_Reader_readBroken) 62 = .ok (.iconst 1, 1) := by decide +kernel
theorem d_Reader_readBroken_63 : decode (ab_bc mt_Reader_readBroken) 63 = .ok (.iload_n 1, 1) := by decide +kernel
theorem d_Reader_readBroken_64 : decode (ab_bc mt_Reader_readBroken) 64 = .ok (.ishl, 1) := by decide +kernel
theorem d_Reader_readBroken_65 : decode (ab_bc mt_Reader_readBroken) 65 = .ok (.iconst (-1), 1) := by decide +kernel
theorem d_Reader_readBroken_66 : decode (ab_bc mt_Reader_readBroken) 66 = .ok (.ixor, 1) := by decide +kernel
theorem d_Reader_readBroken_67 : decode (ab_bc mt_Reader_readBroken) 67 = .ok (.iand, 1) := by decide +kernel
theorem d_Reader_readBroken_68 : decode (ab_bc mt_Reader_readBroken) 68 = .ok (.putfield 100, 3) := by decide +kernel
theorem d_Reader_readBroken_71 : decode (ab_bc mt_Reader_readBroken) 71 = .ok (.aload_n 0, 1) := by decide +kernel
theorem d_Reader_readBroken_72 : decode (ab_bc mt_Reader_readBroken) 72 = .ok (.invokevirtual 46, 3) := by decide +kernel
theorem d_Reader_readBroken_75 : decode (ab_bc mt_Reader_readBroken) 75 = .ok (.return_, 1) := by decide +kernel
-- CableKeeper$Reader.readBroken()V over kx_reader
theorem q_Reader_readBroken_0 {w : ab_Wd} {d n nc ns : Nat} {I : Nat → Nat → Int32} {L : Nat → Nat → Int64} {res : ab_Re}  (hc : nc ≤ res.2.2.2.2.2.1) (hs : ns ≤ res.2.2.2.2.2.2)
    (h : ∃ (I2 : Nat → Nat → Int32), ab_C w d mt_Reader_toNext [.ref kx_reader] (I, L, ab_RR, n, nc, ns) (.inl none, (I2, L, ab_RR, n, nc, ns)) ∧ ∃ (r3 : Int32) (I4 : Nat → Nat → Int32), ab_C w d mt_Reader_readNumber [.ref kx_reader, .int 0, .int 23] (I2, L, ab_RR, n, nc, ns) (.inl (some (.int r3)), (I4, L, ab_RR, n, nc, ns)) ∧ ((r3 < (I4 kx_trial 1) → (∃ (r6 : Int32), ab_C w d mt_Cables_isSound [.ref kx_trial, .int r3] (I4, L, ab_RR, n, nc, ns) (.inl (some (.int r6)), (I4, L, ab_RR, n, nc, ns)) ∧ ((¬ r6 = 0 → (ab_E w (d + 1) mt_Reader_readBroken 47 [.ref kx_reader, .int r3] [] (I4, L, ab_RR, n, nc, ns) res)) ∧ (r6 = 0 → (∃ (I9 : Nat → Nat → Int32), ab_C w d mt_Reader_fail [.ref kx_reader, .int 4] (I4, L, ab_RR, n, nc, ns) (.inl none, (I9, L, ab_RR, n, nc, ns)) ∧ ab_E w (d + 1) mt_Reader_readBroken 47 [.ref kx_reader, .int r3] [] (I9, L, ab_RR, n, nc, ns) res))))) ∧ (¬ r3 < (I4 kx_trial 1) → (∃ (I11 : Nat → Nat → Int32), ab_C w d mt_Reader_fail [.ref kx_reader, .int 3] (I4, L, ab_RR, n, nc, ns) (.inl none, (I11, L, ab_RR, n, nc, ns)) ∧ ab_E w (d + 1) mt_Reader_readBroken 47 [.ref kx_reader, .int r3] [] (I11, L, ab_RR, n, nc, ns) res)))) : ab_E w (d + 1) mt_Reader_readBroken 0 [.ref kx_reader, .null] [] (I, L, ab_RR, n, nc, ns) res := by
  refine ab_aload_n (i := 0) d_Reader_readBroken_0 rfl rfl ?_
  obtain ⟨I2, hC, h⟩ := h
  refine ab_callV (me2 := mt_Reader_toNext) (b := kx_reader) (as := []) (st := []) (rv := none) (M2 := (I2, L, ab_RR, n, nc, ns)) d_Reader_readBroken_1 ce_Reader_toNext v_804 v_806 v_14 (by decide) rfl (Nat.le_of_ble_eq_true rfl) hC (Nat.le_refl _) (Nat.le_refl _) hc hs (fun j h9 => by cases h9) (fun _ _ => rfl) ?_
  show ab_E w (d + 1) mt_Reader_readBroken 4 [.ref kx_reader, .null] [] (I2, L, ab_RR, n, nc, ns) res
  refine ab_aload_n (i := 0) d_Reader_readBroken_4 rfl rfl ?_
  refine ab_iconst (v := 0) d_Reader_readBroken_5 rfl ?_
  refine ab_bipush (v := 23) d_Reader_readBroken_6 rfl ?_
  obtain ⟨r3, I4, hC, h⟩ := h
  refine ab_callV (me2 := mt_Reader_readNumber) (b := kx_reader) (as := [.int 0, .int 23]) (st := []) (rv := (some (.int r3))) (M2 := (I4, L, ab_RR, n, nc, ns)) d_Reader_readBroken_8 ce_Reader_readNumber v_889 v_891 v_23 (by decide) rfl (Nat.le_of_ble_eq_true rfl) hC (Nat.le_refl _) (Nat.le_refl _) hc hs (fun j h9 => by cases h9) (fun _ _ => rfl) ?_
  show ab_E w (d + 1) mt_Reader_readBroken 11 [.ref kx_reader, .null] [.int r3] (I4, L, ab_RR, n, nc, ns) res
  refine ab_istore_n (i := 1) d_Reader_readBroken_11 rfl (by decide) (Or.inr rfl) ?_
  refine ab_iload_n (i := 1) d_Reader_readBroken_12 rfl rfl ?_
  refine ab_aload_n (i := 0) d_Reader_readBroken_13 rfl rfl ?_
  refine ab_getR (ci := 4) (k := 2) (j := kx_trial) d_Reader_readBroken_14 v_769 rfl (by decide) (by decide) rfl r_kx_reader_2 ?_
  refine ab_getI (ci := 1) (k := 1) d_Reader_readBroken_17 v_198 rfl (by decide) (by decide) rfl ?_
  refine ab_icmp_lt (tgt := 31) d_Reader_readBroken_20 (by decide) (fun c5 => ?_) (fun c5 => ?_)
  · have h := h.1 c5
    refine ab_aload_n (i := 0) d_Reader_readBroken_31 rfl rfl ?_
    refine ab_getR (ci := 4) (k := 2) (j := kx_trial) d_Reader_readBroken_32 v_769 rfl (by decide) (by decide) rfl r_kx_reader_2 ?_
    refine ab_iload_n (i := 1) d_Reader_readBroken_35 rfl rfl ?_
    obtain ⟨r6, hC, h⟩ := h
    refine ab_callV (me2 := mt_Cables_isSound) (b := kx_trial) (as := [.int r3]) (st := []) (rv := (some (.int r6))) (M2 := (I4, L, ab_RR, n, nc, ns)) d_Reader_readBroken_36 ce_Cables_isSound v_908 v_540 v_541 (by decide) rfl (Nat.le_of_ble_eq_true rfl) hC (Nat.le_refl _) (Nat.le_refl _) hc hs (fun j h9 => by cases h9) (fun _ _ => rfl) ?_
    show ab_E w (d + 1) mt_Reader_readBroken 39 [.ref kx_reader, .int r3] [.int r6] (I4, L, ab_RR, n, nc, ns) res
    refine ab_if_ne (tgt := 47) d_Reader_readBroken_39 (by decide) (fun c7 => ?_) (fun c7 => ?_)
    · have h := h.1 c7
      exact h
    · have h := h.2 c7
      refine ab_aload_n (i := 0) d_Reader_readBroken_42 rfl rfl ?_
      refine ab_iconst (v := 4) d_Reader_readBroken_43 rfl ?_
      obtain ⟨I9, hC, h⟩ := h
      refine ab_callV (me2 := mt_Reader_fail) (b := kx_reader) (as := [.int 4]) (st := []) (rv := none) (M2 := (I9, L, ab_RR, n, nc, ns)) d_Reader_readBroken_44 ce_Reader_fail v_885 v_887 v_22 (by decide) rfl (Nat.le_of_ble_eq_true rfl) hC (Nat.le_refl _) (Nat.le_refl _) hc hs (fun j h9 => by cases h9) (fun _ _ => rfl) ?_
      show ab_E w (d + 1) mt_Reader_readBroken 47 [.ref kx_reader, .int r3] [] (I9, L, ab_RR, n, nc, ns) res
      exact h
  · have h := h.2 c5
    refine ab_aload_n (i := 0) d_Reader_readBroken_23 rfl rfl ?_
    refine ab_iconst (v := 3) d_Reader_readBroken_24 rfl ?_
    obtain ⟨I11, hC, h⟩ := h
    refine ab_callV (me2 := mt_Reader_fail) (b := kx_reader) (as := [.int 3]) (st := []) (rv := none) (M2 := (I11, L, ab_RR, n, nc, ns)) d_Reader_readBroken_25 ce_Reader_fail v_885 v_887 v_22 (by decide) rfl (Nat.le_of_ble_eq_true rfl) hC (Nat.le_refl _) (Nat.le_refl _) hc hs (fun j h9 => by cases h9) (fun _ _ => rfl) ?_
    show ab_E w (d + 1) mt_Reader_readBroken 28 [.ref kx_reader, .int r3] [] (I11, L, ab_RR, n, nc, ns) res
    refine ab_goto (tgt := 47) d_Reader_readBroken_28 (by decide) ?_
    exact h
theorem q_Reader_readBroken_47 {w : ab_Wd} {d n nc ns : Nat} {I : Nat → Nat → Int32} {L : Nat → Nat → Int64} {res : ab_Re} (v1 : Int32) (hc : nc ≤ res.2.2.2.2.2.1) (hs : ns ≤ res.2.2.2.2.2.2)
    (h : ((¬ (I kx_reader 7) = 0 → (ab_E w (d + 1) mt_Reader_readBroken 71 [.ref kx_reader, .int v1] [] (I, L, ab_RR, n, nc, ns) res)) ∧ ((I kx_reader 7) = 0 → (ab_E w (d + 1) mt_Reader_readBroken 71 [.ref kx_reader, .int v1] [] ((ab_up I kx_trial 2 ((I kx_trial 2) &&& (((1 : Int32) <<< (v1 &&& 31)) ^^^ (-1)))), L, ab_RR, n, nc, ns) res)))) : ab_E w (d + 1) mt_Reader_readBroken 47 [.ref kx_reader, .int v1] [] (I, L, ab_RR, n, nc, ns) res := by
  refine ab_aload_n (i := 0) d_Reader_readBroken_47 rfl rfl ?_
  refine ab_getI (ci := 4) (k := 7) d_Reader_readBroken_48 v_774 rfl (by decide) (by decide) rfl ?_
  refine ab_if_ne (tgt := 71) d_Reader_readBroken_51 (by decide) (fun c1 => ?_) (fun c1 => ?_)
  · have h := h.1 c1
    exact h
  · have h := h.2 c1
    refine ab_aload_n (i := 0) d_Reader_readBroken_54 rfl rfl ?_
    refine ab_getR (ci := 4) (k := 2) (j := kx_trial) d_Reader_readBroken_55 v_769 rfl (by decide) (by decide) rfl r_kx_reader_2 ?_
    refine ab_dupr d_Reader_readBroken_58 ?_
    refine ab_getI (ci := 1) (k := 2) d_Reader_readBroken_59 v_203 rfl (by decide) (by decide) rfl ?_
    refine ab_iconst (v := 1) d_Reader_readBroken_62 rfl ?_
    refine ab_iload_n (i := 1) d_Reader_readBroken_63 rfl rfl ?_
    refine ab_ishl d_Reader_readBroken_64 ?_
    refine ab_iconst (v := (-1)) d_Reader_readBroken_65 rfl ?_
    refine ab_ixor d_Reader_readBroken_66 ?_
    refine ab_iand d_Reader_readBroken_67 ?_
    refine ab_putI (ci := 1) (k := 2) d_Reader_readBroken_68 v_203 rfl (by decide) (by decide) rfl (Or.inl rfl) rfl rfl ?_
    exact h
theorem q_Reader_readBroken_71 {w : ab_Wd} {d n nc ns : Nat} {I : Nat → Nat → Int32} {L : Nat → Nat → Int64} {res : ab_Re} (v1 : Int32) (hc : nc ≤ res.2.2.2.2.2.1) (hs : ns ≤ res.2.2.2.2.2.2)
    (h : ∃ (I2 : Nat → Nat → Int32), ab_C w d mt_Reader_toNext [.ref kx_reader] (I, L, ab_RR, n, nc, ns) (.inl none, (I2, L, ab_RR, n, nc, ns)) ∧ res = (.inl none, (I2, L, ab_RR, n, nc, ns))) : ab_E w (d + 1) mt_Reader_readBroken 71 [.ref kx_reader, .int v1] [] (I, L, ab_RR, n, nc, ns) res := by
  refine ab_aload_n (i := 0) d_Reader_readBroken_71 rfl rfl ?_
  obtain ⟨I2, hC, h⟩ := h
  refine ab_callV (me2 := mt_Reader_toNext) (b := kx_reader) (as := []) (st := []) (rv := none) (M2 := (I2, L, ab_RR, n, nc, ns)) d_Reader_readBroken_72 ce_Reader_toNext v_804 v_806 v_14 (by decide) rfl (Nat.le_of_ble_eq_true rfl) hC (Nat.le_refl _) (Nat.le_refl _) hc hs (fun j h9 => by cases h9) (fun _ _ => rfl) ?_
  show ab_E w (d + 1) mt_Reader_readBroken 75 [.ref kx_reader, .int v1] [] (I2, L, ab_RR, n, nc, ns) res
  exact ab_vret d_Reader_readBroken_75 rfl h
theorem d_Reader_readCable_0 : decode (ab_bc mt_Reader_readCable) 0 = .ok (.aload_n 0, 1) := by decide +kernel
theorem d_Reader_readCable_1 : decode (ab_bc mt_Reader_readCable) 1 = .ok (.getfield 37, 3) := by decide +kernel
theorem d_Reader_readCable_4 : decode (ab_bc mt_Reader_readCable) 4 = .ok (.getfield 85, 3) := by decide +kernel
theorem d_Reader_readCable_7 : decode (ab_bc mt_Reader_readCable) 7 = .ok (.bipush 24, 2) := by decide +kernel
theorem d_Reader_readCable_9 : decode (ab_bc mt_Reader_readCable) 9 = .ok (.if_icmp .lt 8, 3) := by decide +kernel
theorem d_Reader_readCable_12 : decode (ab_bc mt_Reader_readCable) 12 = .ok (.aload_n 0, 1) := by decide +kernel
theorem d_Reader_readCable_13 : decode (ab_bc mt_Reader_readCable) 13 = .ok (.iconst 2, 1) := by decide +kernel
theorem d_Reader_readCable_14 : decode (ab_bc mt_Reader_readCable) 14 = .ok (.invokevirtual 75, 3) := by decide +kernel
theorem d_Reader_readCable_17 : decode (ab_bc mt_Reader_readCable) 17 = .ok (.aload_n 0, 1) := by decide +kernel
theorem d_Reader_readCable_18 : decode (ab_bc mt_Reader_readCable) 18 = .ok (.invokevirtual 46, 3) := by decide +kernel
theorem d_Reader_readCable_21 : decode (ab_bc mt_Reader_readCable) 21 = .ok (.aload_n 0, 1) := by decide +kernel
theorem d_Reader_readCable_22 : decode (ab_bc mt_Reader_readCable) 22 = .ok (.invokevirtual 88, 3) := by decide +kernel
theorem d_Reader_readCable_25 : decode (ab_bc mt_Reader_readCable) 25 = .ok (.istore_n 1, 1) := by decide +kernel
theorem d_Reader_readCable_26 : decode (ab_bc mt_Reader_readCable) 26 = .ok (.aload_n 0, 1) := by decide +kernel
theorem d_Reader_readCable_27 : decode (ab_bc mt_Reader_readCable) 27 = .ok (.invokevirtual 46, 3) := by decide +kernel
theorem d_Reader_readCable_30 : decode (ab_bc mt_Reader_readCable) 30 = .ok (.aload_n 0, 1) := by decide +kernel
theorem d_Reader_readCable_31 : decode (ab_bc mt_Reader_readCable) 31 = .ok (.invokevirtual 88, 3) := by decide +kernel
theorem d_Reader_readCable_34 : decode (ab_bc mt_Reader_readCable) 34 = .ok (.istore_n 2, 1) := by decide +kernel
theorem d_Reader_readCable_35 : decode (ab_bc mt_Reader_readCable) 35 = .ok (.iload_n 1, 1) := by decide +kernel
theorem d_Reader_readCable_36 : decode (ab_bc mt_Reader_readCable) 36 = .ok (.iload_n 2, 1) := by decide +kernel
theorem d_Reader_readCable_37 : decode (ab_bc mt_Reader_readCable) 37 = .ok (.if_icmp .ne 8, 3) := by decide +kernel
theorem d_Reader_readCable_40 : decode (ab_bc mt_Reader_readCable) 40 = .ok (.aload_n 0, 1) := by decide +kernel
theorem d_Reader_readCable_41 : decode (ab_bc mt_Reader_readCable) 41 = .ok (.iconst 5, 1) := by decide +kernel
theorem d_Reader_readCable_42 : decode (ab_bc mt_Reader_readCable) 42 = .ok (.invokevirtual 75, 3) := by decide +kernel
theorem d_Reader_readCable_45 : decode (ab_bc mt_Reader_readCable) 45 = .ok (.aload_n 0, 1) := by decide +kernel
theorem d_Reader_readCable_46 : decode (ab_bc mt_Reader_readCable) 46 = .ok (.invokevirtual 46, 3) := by decide +kernel
theorem d_Reader_readCable_49 : decode (ab_bc mt_Reader_readCable) 49 = .ok (.aload_n 0, 1) := by decide +kernel
theorem d_Reader_readCable_50 : decode (ab_bc mt_Reader_readCable) 50 = .ok (.iconst 1, 1) := by decide +kernel
theorem d_Reader_readCable_51 : decode (ab_bc mt_Reader_readCable) 51 = .ok (.sipush 999, 3) := by decide +kernel
theorem d_Reader_readCable_54 : decode (ab_bc mt_Reader_readCable) 54 = .ok (.invokevirtual 79, 3) := by decide +kernel
theorem d_Reader_readCable_57 : decode (ab_bc mt_Reader_readCable) 57 = .ok (.istore_n 3, 1) := by decide +kernel
theorem d_Reader_readCable_58 : decode (ab_bc mt_Reader_readCable) 58 = .ok (.aload_n 0, 1) := by decide +kernel
theorem d_Reader_readCable_59 : decode (ab_bc mt_Reader_readCable) 59 = .ok (.invokevirtual 46, 3) := by decide +kernel
theorem d_Reader_readCable_62 : decode (ab_bc mt_Reader_readCable) 62 = .ok (.iconst 0, 1) := by decide +kernel
theorem d_Reader_readCable_63 : decode (ab_bc mt_Reader_readCable) 63 = .ok (.istore 4, 2) := by decide +kernel
theorem d_Reader_readCable_65 : decode (ab_bc mt_Reader_readCable) 65 = .ok (.aload_n 0, 1) := by decide +kernel
theorem d_Reader_readCable_66 : decode (ab_bc mt_Reader_readCable) 66 = .ok (.getfield 15, 3) := by decide +kernel
theorem d_Reader_readCable_69 : decode (ab_bc mt_Reader_readCable) 69 = .ok (.iconst 2, 1) := by decide +kernel
theorem d_Reader_readCable_70 : decode (ab_bc mt_Reader_readCable) 70 = .ok (.if_icmp .ne 15, 3) := by decide +kernel
theorem d_Reader_readCable_73 : decode (ab_bc mt_Reader_readCable) 73 = .ok (.aload_n 0, 1) := by decide +kernel
theorem d_Reader_readCable_74 : decode (ab_bc mt_Reader_readCable) 74 = .ok (.iconst 0, 1) := by decide +kernel
theorem d_Reader_readCable_75 : decode (ab_bc mt_Reader_readCable) 75 = .ok (.iconst 3, 1) := by decide +kernel
theorem d_Reader_readCable_76 : decode (ab_bc mt_Reader_readCable) 76 = .ok (.invokevirtual 79, 3) := by decide +kernel
theorem d_Reader_readCable_79 : decode (ab_bc mt_Reader_readCable) 79 = .ok (.istore 4, 2) := by decide +kernel
theorem d_Reader_readCable_81 : decode (ab_bc mt_Reader_readCable) 81 = .ok (.aload_n 0, 1) := by decide +kernel
theorem d_Reader_readCable_82 : decode (ab_bc mt_Reader_readCable) 82 = .ok (.invokevirtual 46, 3) := by decide +kernel
theorem d_Reader_readCable_85 : decode (ab_bc mt_Reader_readCable) 85 = .ok (.aload_n 0, 1) := by decide +kernel
theorem d_Reader_readCable_86 : decode (ab_bc mt_Reader_readCable) 86 = .ok (.getfield 24, 3) := by decide +kernel
theorem d_Reader_readCable_89 : decode (ab_bc mt_Reader_readCable) 89 = .ok (.ifCond .ne 16, 3) := by decide +kernel
theorem d_Reader_readCable_92 : decode (ab_bc mt_Reader_readCable) 92 = .ok (.aload_n 0, 1) := by decide +kernel
theorem d_Reader_readCable_93 : decode (ab_bc mt_Reader_readCable) 93 = .ok (.getfield 37, 3) := by decide +kernel
theorem d_Reader_readCable_96 : decode (ab_bc mt_Reader_readCable) 96 = .ok (.iload_n 1, 1) := by decide +kernel
theorem d_Reader_readCable_97 : decode (ab_bc mt_Reader_readCable) 97 = .ok (.iload_n 2, 1) := by decide +kernel
theorem d_Reader_readCable_98 : decode (ab_bc mt_Reader_readCable) 98 = .ok (.iload_n 3, 1) := by decide +kernel
theorem d_Reader_readCable_99 : decode (ab_bc mt_Reader_readCable) 99 = .ok (.iload 4, 2) := by decide +kernel
theorem d_Reader_readCable_101 : decode (ab_bc mt_Reader_readCable) 101 = .ok (.invokevirtual 92, 3) := by decide +kernel
theorem d_Reader_readCable_104 : decode (ab_bc mt_Reader_readCable) 104 = .ok (.pop, 1) := by decide +kernel
theorem d_Reader_readCable_105 : decode (ab_bc mt_Reader_readCable) 105 = .ok (.return_, 1) := by decide +kernel
-- CableKeeper$Reader.readCable()V over kx_reader
theorem q_Reader_readCable_0 {w : ab_Wd} {d n nc ns : Nat} {I : Nat → Nat → Int32} {L : Nat → Nat → Int64} {res : ab_Re}  (hc : nc ≤ res.2.2.2.2.2.1) (hs : ns ≤ res.2.2.2.2.2.2)
    (h : (((I kx_trial 1) < 24 → (ab_E w (d + 1) mt_Reader_readCable 17 [.ref kx_reader, .null, .null, .null, .null] [] (I, L, ab_RR, n, nc, ns) res)) ∧ (¬ (I kx_trial 1) < 24 → (∃ (I3 : Nat → Nat → Int32), ab_C w d mt_Reader_fail [.ref kx_reader, .int 2] (I, L, ab_RR, n, nc, ns) (.inl none, (I3, L, ab_RR, n, nc, ns)) ∧ ab_E w (d + 1) mt_Reader_readCable 17 [.ref kx_reader, .null, .null, .null, .null] [] (I3, L, ab_RR, n, nc, ns) res)))) : ab_E w (d + 1) mt_Reader_readCable 0 [.ref kx_reader, .null, .null, .null, .null] [] (I, L, ab_RR, n, nc, ns) res := by
  refine ab_aload_n (i := 0) d_Reader_readCable_0 rfl rfl ?_
  refine ab_getR (ci := 4) (k := 2) (j := kx_trial) d_Reader_readCable_1 v_769 rfl (by decide) (by decide) rfl r_kx_reader_2 ?_
  refine ab_getI (ci := 1) (k := 1) d_Reader_readCable_4 v_198 rfl (by decide) (by decide) rfl ?_
  refine ab_bipush (v := 24) d_Reader_readCable_7 rfl ?_
  refine ab_icmp_lt (tgt := 17) d_Reader_readCable_9 (by decide) (fun c1 => ?_) (fun c1 => ?_)
  · have h := h.1 c1
    exact h
  · have h := h.2 c1
    refine ab_aload_n (i := 0) d_Reader_readCable_12 rfl rfl ?_
    refine ab_iconst (v := 2) d_Reader_readCable_13 rfl ?_
    obtain ⟨I3, hC, h⟩ := h
    refine ab_callV (me2 := mt_Reader_fail) (b := kx_reader) (as := [.int 2]) (st := []) (rv := none) (M2 := (I3, L, ab_RR, n, nc, ns)) d_Reader_readCable_14 ce_Reader_fail v_885 v_887 v_22 (by decide) rfl (Nat.le_of_ble_eq_true rfl) hC (Nat.le_refl _) (Nat.le_refl _) hc hs (fun j h9 => by cases h9) (fun _ _ => rfl) ?_
    show ab_E w (d + 1) mt_Reader_readCable 17 [.ref kx_reader, .null, .null, .null, .null] [] (I3, L, ab_RR, n, nc, ns) res
    exact h
theorem q_Reader_readCable_17 {w : ab_Wd} {d n nc ns : Nat} {I : Nat → Nat → Int32} {L : Nat → Nat → Int64} {res : ab_Re}  (hc : nc ≤ res.2.2.2.2.2.1) (hs : ns ≤ res.2.2.2.2.2.2)
    (h : ∃ (I2 : Nat → Nat → Int32), ab_C w d mt_Reader_toNext [.ref kx_reader] (I, L, ab_RR, n, nc, ns) (.inl none, (I2, L, ab_RR, n, nc, ns)) ∧ ∃ (r3 : Int32) (I4 : Nat → Nat → Int32), ab_C w d mt_Reader_readSite [.ref kx_reader] (I2, L, ab_RR, n, nc, ns) (.inl (some (.int r3)), (I4, L, ab_RR, n, nc, ns)) ∧ ∃ (I6 : Nat → Nat → Int32), ab_C w d mt_Reader_toNext [.ref kx_reader] (I4, L, ab_RR, n, nc, ns) (.inl none, (I6, L, ab_RR, n, nc, ns)) ∧ ∃ (r7 : Int32) (I8 : Nat → Nat → Int32), ab_C w d mt_Reader_readSite [.ref kx_reader] (I6, L, ab_RR, n, nc, ns) (.inl (some (.int r7)), (I8, L, ab_RR, n, nc, ns)) ∧ ((¬ r3 = r7 → (ab_E w (d + 1) mt_Reader_readCable 45 [.ref kx_reader, .int r3, .int r7, .null, .null] [] (I8, L, ab_RR, n, nc, ns) res)) ∧ (r3 = r7 → (∃ (I11 : Nat → Nat → Int32), ab_C w d mt_Reader_fail [.ref kx_reader, .int 5] (I8, L, ab_RR, n, nc, ns) (.inl none, (I11, L, ab_RR, n, nc, ns)) ∧ ab_E w (d + 1) mt_Reader_readCable 45 [.ref kx_reader, .int r3, .int r7, .null, .null] [] (I11, L, ab_RR, n, nc, ns) res)))) : ab_E w (d + 1) mt_Reader_readCable 17 [.ref kx_reader, .null, .null, .null, .null] [] (I, L, ab_RR, n, nc, ns) res := by
  refine ab_aload_n (i := 0) d_Reader_readCable_17 rfl rfl ?_
  obtain ⟨I2, hC, h⟩ := h
  refine ab_callV (me2 := mt_Reader_toNext) (b := kx_reader) (as := []) (st := []) (rv := none) (M2 := (I2, L, ab_RR, n, nc, ns)) d_Reader_readCable_18 ce_Reader_toNext v_804 v_806 v_14 (by decide) rfl (Nat.le_of_ble_eq_true rfl) hC (Nat.le_refl _) (Nat.le_refl _) hc hs (fun j h9 => by cases h9) (fun _ _ => rfl) ?_
  show ab_E w (d + 1) mt_Reader_readCable 21 [.ref kx_reader, .null, .null, .null, .null] [] (I2, L, ab_RR, n, nc, ns) res
  refine ab_aload_n (i := 0) d_Reader_readCable_21 rfl rfl ?_
  obtain ⟨r3, I4, hC, h⟩ := h
  refine ab_callV (me2 := mt_Reader_readSite) (b := kx_reader) (as := []) (st := []) (rv := (some (.int r3))) (M2 := (I4, L, ab_RR, n, nc, ns)) d_Reader_readCable_22 ce_Reader_readSite v_898 v_900 v_25 (by decide) rfl (Nat.le_of_ble_eq_true rfl) hC (Nat.le_refl _) (Nat.le_refl _) hc hs (fun j h9 => by cases h9) (fun _ _ => rfl) ?_
  show ab_E w (d + 1) mt_Reader_readCable 25 [.ref kx_reader, .null, .null, .null, .null] [.int r3] (I4, L, ab_RR, n, nc, ns) res
  refine ab_istore_n (i := 1) d_Reader_readCable_25 rfl (by decide) (Or.inr rfl) ?_
  refine ab_aload_n (i := 0) d_Reader_readCable_26 rfl rfl ?_
  obtain ⟨I6, hC, h⟩ := h
  refine ab_callV (me2 := mt_Reader_toNext) (b := kx_reader) (as := []) (st := []) (rv := none) (M2 := (I6, L, ab_RR, n, nc, ns)) d_Reader_readCable_27 ce_Reader_toNext v_804 v_806 v_14 (by decide) rfl (Nat.le_of_ble_eq_true rfl) hC (Nat.le_refl _) (Nat.le_refl _) hc hs (fun j h9 => by cases h9) (fun _ _ => rfl) ?_
  show ab_E w (d + 1) mt_Reader_readCable 30 [.ref kx_reader, .int r3, .null, .null, .null] [] (I6, L, ab_RR, n, nc, ns) res
  refine ab_aload_n (i := 0) d_Reader_readCable_30 rfl rfl ?_
  obtain ⟨r7, I8, hC, h⟩ := h
  refine ab_callV (me2 := mt_Reader_readSite) (b := kx_reader) (as := []) (st := []) (rv := (some (.int r7))) (M2 := (I8, L, ab_RR, n, nc, ns)) d_Reader_readCable_31 ce_Reader_readSite v_898 v_900 v_25 (by decide) rfl (Nat.le_of_ble_eq_true rfl) hC (Nat.le_refl _) (Nat.le_refl _) hc hs (fun j h9 => by cases h9) (fun _ _ => rfl) ?_
  show ab_E w (d + 1) mt_Reader_readCable 34 [.ref kx_reader, .int r3, .null, .null, .null] [.int r7] (I8, L, ab_RR, n, nc, ns) res
  refine ab_istore_n (i := 2) d_Reader_readCable_34 rfl (by decide) (Or.inr rfl) ?_
  refine ab_iload_n (i := 1) d_Reader_readCable_35 rfl rfl ?_
  refine ab_iload_n (i := 2) d_Reader_readCable_36 rfl rfl ?_
  refine ab_icmp_ne (tgt := 45) d_Reader_readCable_37 (by decide) (fun c9 => ?_) (fun c9 => ?_)
  · have h := h.1 c9
    exact h
  · have h := h.2 c9
    refine ab_aload_n (i := 0) d_Reader_readCable_40 rfl rfl ?_
    refine ab_iconst (v := 5) d_Reader_readCable_41 rfl ?_
    obtain ⟨I11, hC, h⟩ := h
    refine ab_callV (me2 := mt_Reader_fail) (b := kx_reader) (as := [.int 5]) (st := []) (rv := none) (M2 := (I11, L, ab_RR, n, nc, ns)) d_Reader_readCable_42 ce_Reader_fail v_885 v_887 v_22 (by decide) rfl (Nat.le_of_ble_eq_true rfl) hC (Nat.le_refl _) (Nat.le_refl _) hc hs (fun j h9 => by cases h9) (fun _ _ => rfl) ?_
    show ab_E w (d + 1) mt_Reader_readCable 45 [.ref kx_reader, .int r3, .int r7, .null, .null] [] (I11, L, ab_RR, n, nc, ns) res
    exact h
theorem q_Reader_readCable_45 {w : ab_Wd} {d n nc ns : Nat} {I : Nat → Nat → Int32} {L : Nat → Nat → Int64} {res : ab_Re} (v1 : Int32) (v2 : Int32) (hc : nc ≤ res.2.2.2.2.2.1) (hs : ns ≤ res.2.2.2.2.2.2)
    (h : ∃ (I2 : Nat → Nat → Int32), ab_C w d mt_Reader_toNext [.ref kx_reader] (I, L, ab_RR, n, nc, ns) (.inl none, (I2, L, ab_RR, n, nc, ns)) ∧ ∃ (r3 : Int32) (I4 : Nat → Nat → Int32), ab_C w d mt_Reader_readNumber [.ref kx_reader, .int 1, .int 999] (I2, L, ab_RR, n, nc, ns) (.inl (some (.int r3)), (I4, L, ab_RR, n, nc, ns)) ∧ ∃ (I6 : Nat → Nat → Int32), ab_C w d mt_Reader_toNext [.ref kx_reader] (I4, L, ab_RR, n, nc, ns) (.inl none, (I6, L, ab_RR, n, nc, ns)) ∧ ((¬ (I6 kx_reader 4) = 2 → (ab_E w (d + 1) mt_Reader_readCable 85 [.ref kx_reader, .int v1, .int v2, .int r3, .int 0] [] (I6, L, ab_RR, n, nc, ns) res)) ∧ ((I6 kx_reader 4) = 2 → (∃ (r8 : Int32) (I9 : Nat → Nat → Int32), ab_C w d mt_Reader_readNumber [.ref kx_reader, .int 0, .int 3] (I6, L, ab_RR, n, nc, ns) (.inl (some (.int r8)), (I9, L, ab_RR, n, nc, ns)) ∧ ∃ (I11 : Nat → Nat → Int32), ab_C w d mt_Reader_toNext [.ref kx_reader] (I9, L, ab_RR, n, nc, ns) (.inl none, (I11, L, ab_RR, n, nc, ns)) ∧ ab_E w (d + 1) mt_Reader_readCable 85 [.ref kx_reader, .int v1, .int v2, .int r3, .int r8] [] (I11, L, ab_RR, n, nc, ns) res)))) : ab_E w (d + 1) mt_Reader_readCable 45 [.ref kx_reader, .int v1, .int v2, .null, .null] [] (I, L, ab_RR, n, nc, ns) res := by
  refine ab_aload_n (i := 0) d_Reader_readCable_45 rfl rfl ?_
  obtain ⟨I2, hC, h⟩ := h
  refine ab_callV (me2 := mt_Reader_toNext) (b := kx_reader) (as := []) (st := []) (rv := none) (M2 := (I2, L, ab_RR, n, nc, ns)) d_Reader_readCable_46 ce_Reader_toNext v_804 v_806 v_14 (by decide) rfl (Nat.le_of_ble_eq_true rfl) hC (Nat.le_refl _) (Nat.le_refl _) hc hs (fun j h9 => by cases h9) (fun _ _ => rfl) ?_
  show ab_E w (d + 1) mt_Reader_readCable 49 [.ref kx_reader, .int v1, .int v2, .null, .null] [] (I2, L, ab_RR, n, nc, ns) res
  refine ab_aload_n (i := 0) d_Reader_readCable_49 rfl rfl ?_
  refine ab_iconst (v := 1) d_Reader_readCable_50 rfl ?_
  refine ab_sipush (v := 999) d_Reader_readCable_51 rfl ?_
  obtain ⟨r3, I4, hC, h⟩ := h
  refine ab_callV (me2 := mt_Reader_readNumber) (b := kx_reader) (as := [.int 1, .int 999]) (st := []) (rv := (some (.int r3))) (M2 := (I4, L, ab_RR, n, nc, ns)) d_Reader_readCable_54 ce_Reader_readNumber v_889 v_891 v_23 (by decide) rfl (Nat.le_of_ble_eq_true rfl) hC (Nat.le_refl _) (Nat.le_refl _) hc hs (fun j h9 => by cases h9) (fun _ _ => rfl) ?_
  show ab_E w (d + 1) mt_Reader_readCable 57 [.ref kx_reader, .int v1, .int v2, .null, .null] [.int r3] (I4, L, ab_RR, n, nc, ns) res
  refine ab_istore_n (i := 3) d_Reader_readCable_57 rfl (by decide) (Or.inr rfl) ?_
  refine ab_aload_n (i := 0) d_Reader_readCable_58 rfl rfl ?_
  obtain ⟨I6, hC, h⟩ := h
  refine ab_callV (me2 := mt_Reader_toNext) (b := kx_reader) (as := []) (st := []) (rv := none) (M2 := (I6, L, ab_RR, n, nc, ns)) d_Reader_readCable_59 ce_Reader_toNext v_804 v_806 v_14 (by decide) rfl (Nat.le_of_ble_eq_true rfl) hC (Nat.le_refl _) (Nat.le_refl _) hc hs (fun j h9 => by cases h9) (fun _ _ => rfl) ?_
  show ab_E w (d + 1) mt_Reader_readCable 62 [.ref kx_reader, .int v1, .int v2, .int r3, .null] [] (I6, L, ab_RR, n, nc, ns) res
  refine ab_iconst (v := 0) d_Reader_readCable_62 rfl ?_
  refine ab_istore (i := 4) d_Reader_readCable_63 (by decide) (Or.inr rfl) ?_
  refine ab_aload_n (i := 0) d_Reader_readCable_65 rfl rfl ?_
  refine ab_getI (ci := 4) (k := 4) d_Reader_readCable_66 v_771 rfl (by decide) (by decide) rfl ?_
  refine ab_iconst (v := 2) d_Reader_readCable_69 rfl ?_
  refine ab_icmp_ne (tgt := 85) d_Reader_readCable_70 (by decide) (fun c7 => ?_) (fun c7 => ?_)
  · have h := h.1 c7
    exact h
  · have h := h.2 c7
    refine ab_aload_n (i := 0) d_Reader_readCable_73 rfl rfl ?_
    refine ab_iconst (v := 0) d_Reader_readCable_74 rfl ?_
    refine ab_iconst (v := 3) d_Reader_readCable_75 rfl ?_
    obtain ⟨r8, I9, hC, h⟩ := h
    refine ab_callV (me2 := mt_Reader_readNumber) (b := kx_reader) (as := [.int 0, .int 3]) (st := []) (rv := (some (.int r8))) (M2 := (I9, L, ab_RR, n, nc, ns)) d_Reader_readCable_76 ce_Reader_readNumber v_889 v_891 v_23 (by decide) rfl (Nat.le_of_ble_eq_true rfl) hC (Nat.le_refl _) (Nat.le_refl _) hc hs (fun j h9 => by cases h9) (fun _ _ => rfl) ?_
    show ab_E w (d + 1) mt_Reader_readCable 79 [.ref kx_reader, .int v1, .int v2, .int r3, .int 0] [.int r8] (I9, L, ab_RR, n, nc, ns) res
    refine ab_istore (i := 4) d_Reader_readCable_79 (by decide) (Or.inr rfl) ?_
    refine ab_aload_n (i := 0) d_Reader_readCable_81 rfl rfl ?_
    obtain ⟨I11, hC, h⟩ := h
    refine ab_callV (me2 := mt_Reader_toNext) (b := kx_reader) (as := []) (st := []) (rv := none) (M2 := (I11, L, ab_RR, n, nc, ns)) d_Reader_readCable_82 ce_Reader_toNext v_804 v_806 v_14 (by decide) rfl (Nat.le_of_ble_eq_true rfl) hC (Nat.le_refl _) (Nat.le_refl _) hc hs (fun j h9 => by cases h9) (fun _ _ => rfl) ?_
    show ab_E w (d + 1) mt_Reader_readCable 85 [.ref kx_reader, .int v1, .int v2, .int r3, .int r8] [] (I11, L, ab_RR, n, nc, ns) res
    exact h
theorem q_Reader_readCable_85 {w : ab_Wd} {d n nc ns : Nat} {I : Nat → Nat → Int32} {L : Nat → Nat → Int64} {res : ab_Re} (v1 : Int32) (v2 : Int32) (v3 : Int32) (v4 : Int32) (hc : nc ≤ res.2.2.2.2.2.1) (hs : ns ≤ res.2.2.2.2.2.2)
    (h : ((¬ (I kx_reader 7) = 0 → (ab_E w (d + 1) mt_Reader_readCable 105 [.ref kx_reader, .int v1, .int v2, .int v3, .int v4] [] (I, L, ab_RR, n, nc, ns) res)) ∧ ((I kx_reader 7) = 0 → (∃ (r2 : Int32) (I3 : Nat → Nat → Int32), ab_C w d mt_Cables_add [.ref kx_trial, .int v1, .int v2, .int v3, .int v4] (I, L, ab_RR, n, nc, ns) (.inl (some (.int r2)), (I3, L, ab_RR, n, nc, ns)) ∧ ab_E w (d + 1) mt_Reader_readCable 105 [.ref kx_reader, .int v1, .int v2, .int v3, .int v4] [] (I3, L, ab_RR, n, nc, ns) res)))) : ab_E w (d + 1) mt_Reader_readCable 85 [.ref kx_reader, .int v1, .int v2, .int v3, .int v4] [] (I, L, ab_RR, n, nc, ns) res := by
  refine ab_aload_n (i := 0) d_Reader_readCable_85 rfl rfl ?_
  refine ab_getI (ci := 4) (k := 7) d_Reader_readCable_86 v_774 rfl (by decide) (by decide) rfl ?_
  refine ab_if_ne (tgt := 105) d_Reader_readCable_89 (by decide) (fun c1 => ?_) (fun c1 => ?_)
  · have h := h.1 c1
    exact h
  · have h := h.2 c1
    refine ab_aload_n (i := 0) d_Reader_readCable_92 rfl rfl ?_
    refine ab_getR (ci := 4) (k := 2) (j := kx_trial) d_Reader_readCable_93 v_769 rfl (by decide) (by decide) rfl r_kx_reader_2 ?_
    refine ab_iload_n (i := 1) d_Reader_readCable_96 rfl rfl ?_
    refine ab_iload_n (i := 2) d_Reader_readCable_97 rfl rfl ?_
    refine ab_iload_n (i := 3) d_Reader_readCable_98 rfl rfl ?_
    refine ab_iload (i := 4) d_Reader_readCable_99 rfl ?_
    obtain ⟨r2, I3, hC, h⟩ := h
    refine ab_callV (me2 := mt_Cables_add) (b := kx_trial) (as := [.int v1, .int v2, .int v3, .int v4]) (st := []) (rv := (some (.int r2))) (M2 := (I3, L, ab_RR, n, nc, ns)) d_Reader_readCable_101 ce_Cables_add v_902 v_638 v_639 (by decide) rfl (Nat.le_of_ble_eq_true rfl) hC (Nat.le_refl _) (Nat.le_refl _) hc hs (fun j h9 => by cases h9) (fun _ _ => rfl) ?_
    show ab_E w (d + 1) mt_Reader_readCable 104 [.ref kx_reader, .int v1, .int v2, .int v3, .int v4] [.int r2] (I3, L, ab_RR, n, nc, ns) res
    refine ab_popi d_Reader_readCable_104 ?_
    exact h
theorem q_Reader_readCable_105 {w : ab_Wd} {d n nc ns : Nat} {I : Nat → Nat → Int32} {L : Nat → Nat → Int64} {res : ab_Re} (v1 : Int32) (v2 : Int32) (v3 : Int32) (v4 : Int32) (hc : nc ≤ res.2.2.2.2.2.1) (hs : ns ≤ res.2.2.2.2.2.2)
    (h : res = (.inl none, (I, L, ab_RR, n, nc, ns))) : ab_E w (d + 1) mt_Reader_readCable 105 [.ref kx_reader, .int v1, .int v2, .int v3, .int v4] [] (I, L, ab_RR, n, nc, ns) res := by
  exact ab_vret d_Reader_readCable_105 rfl h
theorem d_Reader_readSites_0 : decode (ab_bc mt_Reader_readSites) 0 = .ok (.iload_n 1, 1) := by decide +kernel
theorem d_Reader_readSites_1 : decode (ab_bc mt_Reader_readSites) 1 = .ok (.ifCond .ne 8, 3) := by decide +kernel
theorem d_Reader_readSites_4 : decode (ab_bc mt_Reader_readSites) 4 = .ok (.aload_n 0, 1) := by decide +kernel
theorem d_Reader_readSites_5 : decode (ab_bc mt_Reader_readSites) 5 = .ok (.iconst 4, 1) := by decide +kernel
theorem d_Reader_readSites_6 : decode (ab_bc mt_Reader_readSites) 6 = .ok (.invokevirtual 75, 3) := by decide +kernel
theorem d_Reader_readSites_9 : decode (ab_bc mt_Reader_readSites) 9 = .ok (.aload_n 0, 1) := by decide +kernel
theorem d_Reader_readSites_10 : decode (ab_bc mt_Reader_readSites) 10 = .ok (.invokevirtual 46, 3) := by decide +kernel
theorem d_Reader_readSites_13 : decode (ab_bc mt_Reader_readSites) 13 = .ok (.aload_n 0, 1) := by decide +kernel
theorem d_Reader_readSites_14 : decode (ab_bc mt_Reader_readSites) 14 = .ok (.iconst 2, 1) := by decide +kernel
theorem d_Reader_readSites_15 : decode (ab_bc mt_Reader_readSites) 15 = .ok (.bipush 10, 2) := by decide +kernel
theorem d_Reader_readSites_17 : decode (ab_bc mt_Reader_readSites) 17 = .ok (.invokevirtual 79, 3) := by decide +kernel
theorem d_Reader_readSites_20 : decode (ab_bc mt_Reader_readSites) 20 = .ok (.istore_n 2, 1) := by decide +kernel
theorem d_Reader_readSites_21 : decode (ab_bc mt_Reader_readSites) 21 = .ok (.aload_n 0, 1) := by decide +kernel
theorem d_Reader_readSites_22 : decode (ab_bc mt_Reader_readSites) 22 = .ok (.getfield 24, 3) := by decide +kernel
theorem d_Reader_readSites_25 : decode (ab_bc mt_Reader_readSites) 25 = .ok (.ifCond .ne 11, 3) := by decide +kernel
theorem d_Reader_readSites_28 : decode (ab_bc mt_Reader_readSites) 28 = .ok (.aload_n 0, 1) := by decide +kernel
theorem d_Reader_readSites_29 : decode (ab_bc mt_Reader_readSites) 29 = .ok (.getfield 37, 3) := by decide +kernel
theorem d_Reader_readSites_32 : decode (ab_bc mt_Reader_readSites) 32 = .ok (.iload_n 2, 1) := by decide +kernel
theorem d_Reader_readSites_33 : decode (ab_bc mt_Reader_readSites) 33 = .ok (.putfield 83, 3) := by decide +kernel
theorem d_Reader_readSites_36 : decode (ab_bc mt_Reader_readSites) 36 = .ok (.aload_n 0, 1) := by decide +kernel
theorem d_Reader_readSites_37 : decode (ab_bc mt_Reader_readSites) 37 = .ok (.invokevirtual 46, 3) := by decide +kernel
theorem d_Reader_readSites_40 : decode (ab_bc mt_Reader_readSites) 40 = .ok (.return_, 1) := by decide +kernel
-- CableKeeper$Reader.readSites(Z)V over kx_reader
theorem q_Reader_readSites_0 {w : ab_Wd} {d n nc ns : Nat} {I : Nat → Nat → Int32} {L : Nat → Nat → Int64} {res : ab_Re} (v1 : Int32) (hc : nc ≤ res.2.2.2.2.2.1) (hs : ns ≤ res.2.2.2.2.2.2)
    (h : ((¬ v1 = 0 → (ab_E w (d + 1) mt_Reader_readSites 9 [.ref kx_reader, .int v1, .null] [] (I, L, ab_RR, n, nc, ns) res)) ∧ (v1 = 0 → (∃ (I3 : Nat → Nat → Int32), ab_C w d mt_Reader_fail [.ref kx_reader, .int 4] (I, L, ab_RR, n, nc, ns) (.inl none, (I3, L, ab_RR, n, nc, ns)) ∧ ab_E w (d + 1) mt_Reader_readSites 9 [.ref kx_reader, .int v1, .null] [] (I3, L, ab_RR, n, nc, ns) res)))) : ab_E w (d + 1) mt_Reader_readSites 0 [.ref kx_reader, .int v1, .null] [] (I, L, ab_RR, n, nc, ns) res := by
  refine ab_iload_n (i := 1) d_Reader_readSites_0 rfl rfl ?_
  refine ab_if_ne (tgt := 9) d_Reader_readSites_1 (by decide) (fun c1 => ?_) (fun c1 => ?_)
  · have h := h.1 c1
    exact h
  · have h := h.2 c1
    refine ab_aload_n (i := 0) d_Reader_readSites_4 rfl rfl ?_
    refine ab_iconst (v := 4) d_Reader_readSites_5 rfl ?_
    obtain ⟨I3, hC, h⟩ := h
    refine ab_callV (me2 := mt_Reader_fail) (b := kx_reader) (as := [.int 4]) (st := []) (rv := none) (M2 := (I3, L, ab_RR, n, nc, ns)) d_Reader_readSites_6 ce_Reader_fail v_885 v_887 v_22 (by decide) rfl (Nat.le_of_ble_eq_true rfl) hC (Nat.le_refl _) (Nat.le_refl _) hc hs (fun j h9 => by cases h9) (fun _ _ => rfl) ?_
    show ab_E w (d + 1) mt_Reader_readSites 9 [.ref kx_reader, .int v1, .null] [] (I3, L, ab_RR, n, nc, ns) res
    exact h
theorem q_Reader_readSites_9 {w : ab_Wd} {d n nc ns : Nat} {I : Nat → Nat → Int32} {L : Nat → Nat → Int64} {res : ab_Re} (v1 : Int32) (hc : nc ≤ res.2.2.2.2.2.1) (hs : ns ≤ res.2.2.2.2.2.2)
    (h : ∃ (I2 : Nat → Nat → Int32), ab_C w d mt_Reader_toNext [.ref kx_reader] (I, L, ab_RR, n, nc, ns) (.inl none, (I2, L, ab_RR, n, nc, ns)) ∧ ∃ (r3 : Int32) (I4 : Nat → Nat → Int32), ab_C w d mt_Reader_readNumber [.ref kx_reader, .int 2, .int 10] (I2, L, ab_RR, n, nc, ns) (.inl (some (.int r3)), (I4, L, ab_RR, n, nc, ns)) ∧ ((¬ (I4 kx_reader 7) = 0 → (ab_E w (d + 1) mt_Reader_readSites 36 [.ref kx_reader, .int v1, .int r3] [] (I4, L, ab_RR, n, nc, ns) res)) ∧ ((I4 kx_reader 7) = 0 → (ab_E w (d + 1) mt_Reader_readSites 36 [.ref kx_reader, .int v1, .int r3] [] ((ab_up I4 kx_trial 0 r3), L, ab_RR, n, nc, ns) res)))) : ab_E w (d + 1) mt_Reader_readSites 9 [.ref kx_reader, .int v1, .null] [] (I, L, ab_RR, n, nc, ns) res := by
  refine ab_aload_n (i := 0) d_Reader_readSites_9 rfl rfl ?_
  obtain ⟨I2, hC, h⟩ := h
  refine ab_callV (me2 := mt_Reader_toNext) (b := kx_reader) (as := []) (st := []) (rv := none) (M2 := (I2, L, ab_RR, n, nc, ns)) d_Reader_readSites_10 ce_Reader_toNext v_804 v_806 v_14 (by decide) rfl (Nat.le_of_ble_eq_true rfl) hC (Nat.le_refl _) (Nat.le_refl _) hc hs (fun j h9 => by cases h9) (fun _ _ => rfl) ?_
  show ab_E w (d + 1) mt_Reader_readSites 13 [.ref kx_reader, .int v1, .null] [] (I2, L, ab_RR, n, nc, ns) res
  refine ab_aload_n (i := 0) d_Reader_readSites_13 rfl rfl ?_
  refine ab_iconst (v := 2) d_Reader_readSites_14 rfl ?_
  refine ab_bipush (v := 10) d_Reader_readSites_15 rfl ?_
  obtain ⟨r3, I4, hC, h⟩ := h
  refine ab_callV (me2 := mt_Reader_readNumber) (b := kx_reader) (as := [.int 2, .int 10]) (st := []) (rv := (some (.int r3))) (M2 := (I4, L, ab_RR, n, nc, ns)) d_Reader_readSites_17 ce_Reader_readNumber v_889 v_891 v_23 (by decide) rfl (Nat.le_of_ble_eq_true rfl) hC (Nat.le_refl _) (Nat.le_refl _) hc hs (fun j h9 => by cases h9) (fun _ _ => rfl) ?_
  show ab_E w (d + 1) mt_Reader_readSites 20 [.ref kx_reader, .int v1, .null] [.int r3] (I4, L, ab_RR, n, nc, ns) res
  refine ab_istore_n (i := 2) d_Reader_readSites_20 rfl (by decide) (Or.inr rfl) ?_
  refine ab_aload_n (i := 0) d_Reader_readSites_21 rfl rfl ?_
  refine ab_getI (ci := 4) (k := 7) d_Reader_readSites_22 v_774 rfl (by decide) (by decide) rfl ?_
  refine ab_if_ne (tgt := 36) d_Reader_readSites_25 (by decide) (fun c5 => ?_) (fun c5 => ?_)
  · have h := h.1 c5
    exact h
  · have h := h.2 c5
    refine ab_aload_n (i := 0) d_Reader_readSites_28 rfl rfl ?_
    refine ab_getR (ci := 4) (k := 2) (j := kx_trial) d_Reader_readSites_29 v_769 rfl (by decide) (by decide) rfl r_kx_reader_2 ?_
    refine ab_iload_n (i := 2) d_Reader_readSites_32 rfl rfl ?_
    refine ab_putI (ci := 1) (k := 0) d_Reader_readSites_33 v_189 rfl (by decide) (by decide) rfl (Or.inl rfl) rfl rfl ?_
    exact h
theorem q_Reader_readSites_36 {w : ab_Wd} {d n nc ns : Nat} {I : Nat → Nat → Int32} {L : Nat → Nat → Int64} {res : ab_Re} (v1 : Int32) (v2 : Int32) (hc : nc ≤ res.2.2.2.2.2.1) (hs : ns ≤ res.2.2.2.2.2.2)
    (h : ∃ (I2 : Nat → Nat → Int32), ab_C w d mt_Reader_toNext [.ref kx_reader] (I, L, ab_RR, n, nc, ns) (.inl none, (I2, L, ab_RR, n, nc, ns)) ∧ res = (.inl none, (I2, L, ab_RR, n, nc, ns))) : ab_E w (d + 1) mt_Reader_readSites 36 [.ref kx_reader, .int v1, .int v2] [] (I, L, ab_RR, n, nc, ns) res := by
  refine ab_aload_n (i := 0) d_Reader_readSites_36 rfl rfl ?_
  obtain ⟨I2, hC, h⟩ := h
  refine ab_callV (me2 := mt_Reader_toNext) (b := kx_reader) (as := []) (st := []) (rv := none) (M2 := (I2, L, ab_RR, n, nc, ns)) d_Reader_readSites_37 ce_Reader_toNext v_804 v_806 v_14 (by decide) rfl (Nat.le_of_ble_eq_true rfl) hC (Nat.le_refl _) (Nat.le_refl _) hc hs (fun j h9 => by cases h9) (fun _ _ => rfl) ?_
  show ab_E w (d + 1) mt_Reader_readSites 40 [.ref kx_reader, .int v1, .int v2] [] (I2, L, ab_RR, n, nc, ns) res
  exact ab_vret d_Reader_readSites_40 rfl h
theorem d_Reader_isDigit_0 : decode (ab_bc mt_Reader_isDigit) 0 = .ok (.aload_n 0, 1) := by decide +kernel
theorem d_Reader_isDigit_1 : decode (ab_bc mt_Reader_isDigit) 1 = .ok (.getfield 30, 3) := by decide +kernel
theorem d_Reader_isDigit_4 : decode (ab_bc mt_Reader_isDigit) 4 = .ok (.iload_n 1, 1) := by decide +kernel
theorem d_Reader_isDigit_5 : decode (ab_bc mt_Reader_isDigit) 5 = .ok (.baload, 1) := by decide +kernel
theorem d_Reader_isDigit_6 : decode (ab_bc mt_Reader_isDigit) 6 = .ok (.bipush 48, 2) := by decide +kernel
theorem d_Reader_isDigit_8 : decode (ab_bc mt_Reader_isDigit) 8 = .ok (.if_icmp .lt 18, 3) := by decide +kernel
theorem d_Reader_isDigit_11 : decode (ab_bc mt_Reader_isDigit) 11 = .ok (.aload_n 0, 1) := by decide +kernel
theorem d_Reader_isDigit_12 : decode (ab_bc mt_Reader_isDigit) 12 = .ok (.getfield 30, 3) := by decide +kernel
theorem d_Reader_isDigit_15 : decode (ab_bc mt_Reader_isDigit) 15 = .ok (.iload_n 1, 1) := by decide +kernel
theorem d_Reader_isDigit_16 : decode (ab_bc mt_Reader_isDigit) 16 = .ok (.baload, 1) := by decide +kernel
theorem d_Reader_isDigit_17 : decode (ab_bc mt_Reader_isDigit) 17 = .ok (.bipush 57, 2) := by decide +kernel
theorem d_Reader_isDigit_19 : decode (ab_bc mt_Reader_isDigit) 19 = .ok (.if_icmp .gt 7, 3) := by decide +kernel
theorem d_Reader_isDigit_22 : decode (ab_bc mt_Reader_isDigit) 22 = .ok (.iconst 1, 1) := by decide +kernel
theorem d_Reader_isDigit_23 : decode (ab_bc mt_Reader_isDigit) 23 = .ok (.goto 4, 3) := by decide +kernel
theorem d_Reader_isDigit_26 : decode (ab_bc mt_Reader_isDigit) 26 = .ok (.iconst 0, 1) := by decide +kernel
theorem d_Reader_isDigit_27 : decode (ab_bc mt_Reader_isDigit) 27 = .ok (.ireturn, 1) := by decide +kernel
-- CableKeeper$Reader.isDigit(I)Z over kx_reader
theorem q_Reader_isDigit_0 {w : ab_Wd} {d n nc ns : Nat} {I : Nat → Nat → Int32} {L : Nat → Nat → Int64} {res : ab_Re} (v1 : Int32) (hc : nc ≤ res.2.2.2.2.2.1) (hs : ns ≤ res.2.2.2.2.2.2)
    (h : (vp_in v1 700) ∧ (((I kx_tape v1.toNatClampNeg) < 48 → (ab_E w d mt_Reader_isDigit 26 [.ref kx_reader, .int v1] [] (I, L, ab_RR, n, nc, ns) res)) ∧ (¬ (I kx_tape v1.toNatClampNeg) < 48 → ((57 < (I kx_tape v1.toNatClampNeg) → (ab_E w d mt_Reader_isDigit 26 [.ref kx_reader, .int v1] [] (I, L, ab_RR, n, nc, ns) res)) ∧ (¬ 57 < (I kx_tape v1.toNatClampNeg) → (ab_E w d mt_Reader_isDigit 27 [.ref kx_reader, .int v1] [.int 1] (I, L, ab_RR, n, nc, ns) res)))))) : ab_E w d mt_Reader_isDigit 0 [.ref kx_reader, .int v1] [] (I, L, ab_RR, n, nc, ns) res := by
  refine ab_aload_n (i := 0) d_Reader_isDigit_0 rfl rfl ?_
  refine ab_getR (ci := 4) (k := 0) (j := kx_tape) d_Reader_isDigit_1 v_767 rfl (by decide) (by decide) rfl r_kx_reader_0 ?_
  refine ab_iload_n (i := 1) d_Reader_isDigit_4 rfl rfl ?_
  have g1 := h.1; have h := h.2
  refine ab_bald d_Reader_isDigit_5 rfl rfl g1 ?_
  refine ab_bipush (v := 48) d_Reader_isDigit_6 rfl ?_
  refine ab_icmp_lt (tgt := 26) d_Reader_isDigit_8 (by decide) (fun c2 => ?_) (fun c2 => ?_)
  · have h := h.1 c2
    exact h
  · have h := h.2 c2
    refine ab_aload_n (i := 0) d_Reader_isDigit_11 rfl rfl ?_
    refine ab_getR (ci := 4) (k := 0) (j := kx_tape) d_Reader_isDigit_12 v_767 rfl (by decide) (by decide) rfl r_kx_reader_0 ?_
    refine ab_iload_n (i := 1) d_Reader_isDigit_15 rfl rfl ?_
    refine ab_bald d_Reader_isDigit_16 rfl rfl g1 ?_
    refine ab_bipush (v := 57) d_Reader_isDigit_17 rfl ?_
    refine ab_icmp_gt (tgt := 26) d_Reader_isDigit_19 (by decide) (fun c3 => ?_) (fun c3 => ?_)
    · have h := h.1 c3
      exact h
    · have h := h.2 c3
      refine ab_iconst (v := 1) d_Reader_isDigit_22 rfl ?_
      refine ab_goto (tgt := 27) d_Reader_isDigit_23 (by decide) ?_
      exact h
theorem q_Reader_isDigit_26 {w : ab_Wd} {d n nc ns : Nat} {I : Nat → Nat → Int32} {L : Nat → Nat → Int64} {res : ab_Re} (v1 : Int32) (hc : nc ≤ res.2.2.2.2.2.1) (hs : ns ≤ res.2.2.2.2.2.2)
    (h : ab_E w d mt_Reader_isDigit 27 [.ref kx_reader, .int v1] [.int 0] (I, L, ab_RR, n, nc, ns) res) : ab_E w d mt_Reader_isDigit 26 [.ref kx_reader, .int v1] [] (I, L, ab_RR, n, nc, ns) res := by
  refine ab_iconst (v := 0) d_Reader_isDigit_26 rfl ?_
  exact h
theorem q_Reader_isDigit_27 {w : ab_Wd} {d n nc ns : Nat} {I : Nat → Nat → Int32} {L : Nat → Nat → Int64} {res : ab_Re} (v1 : Int32) (s0 : Int32) (hc : nc ≤ res.2.2.2.2.2.1) (hs : ns ≤ res.2.2.2.2.2.2)
    (h : (narrow .boolean (.int s0) = .int s0) ∧ res = (.inl (some (.int s0)), (I, L, ab_RR, n, nc, ns))) : ab_E w d mt_Reader_isDigit 27 [.ref kx_reader, .int v1] [.int s0] (I, L, ab_RR, n, nc, ns) res := by
  have g := h.1; have h := h.2
  exact ab_iret (ty := .boolean) d_Reader_isDigit_27 rfl g h
theorem d_Reader_isLetter_0 : decode (ab_bc mt_Reader_isLetter) 0 = .ok (.aload_n 0, 1) := by decide +kernel
theorem d_Reader_isLetter_1 : decode (ab_bc mt_Reader_isLetter) 1 = .ok (.getfield 30, 3) := by decide +kernel
theorem d_Reader_isLetter_4 : decode (ab_bc mt_Reader_isLetter) 4 = .ok (.iload_n 1, 1) := by decide +kernel
theorem d_Reader_isLetter_5 : decode (ab_bc mt_Reader_isLetter) 5 = .ok (.baload, 1) := by decide +kernel
theorem d_Reader_isLetter_6 : decode (ab_bc mt_Reader_isLetter) 6 = .ok (.bipush 97, 2) := by decide +kernel
theorem d_Reader_isLetter_8 : decode (ab_bc mt_Reader_isLetter) 8 = .ok (.if_icmp .lt 18, 3) := by decide +kernel
theorem d_Reader_isLetter_11 : decode (ab_bc mt_Reader_isLetter) 11 = .ok (.aload_n 0, 1) := by decide +kernel
theorem d_Reader_isLetter_12 : decode (ab_bc mt_Reader_isLetter) 12 = .ok (.getfield 30, 3) := by decide +kernel
theorem d_Reader_isLetter_15 : decode (ab_bc mt_Reader_isLetter) 15 = .ok (.iload_n 1, 1) := by decide +kernel
theorem d_Reader_isLetter_16 : decode (ab_bc mt_Reader_isLetter) 16 = .ok (.baload, 1) := by decide +kernel
theorem d_Reader_isLetter_17 : decode (ab_bc mt_Reader_isLetter) 17 = .ok (.bipush 122, 2) := by decide +kernel
theorem d_Reader_isLetter_19 : decode (ab_bc mt_Reader_isLetter) 19 = .ok (.if_icmp .gt 7, 3) := by decide +kernel
theorem d_Reader_isLetter_22 : decode (ab_bc mt_Reader_isLetter) 22 = .ok (.iconst 1, 1) := by decide +kernel
theorem d_Reader_isLetter_23 : decode (ab_bc mt_Reader_isLetter) 23 = .ok (.goto 4, 3) := by decide +kernel
theorem d_Reader_isLetter_26 : decode (ab_bc mt_Reader_isLetter) 26 = .ok (.iconst 0, 1) := by decide +kernel
theorem d_Reader_isLetter_27 : decode (ab_bc mt_Reader_isLetter) 27 = .ok (.ireturn, 1) := by decide +kernel
-- CableKeeper$Reader.isLetter(I)Z over kx_reader
theorem q_Reader_isLetter_0 {w : ab_Wd} {d n nc ns : Nat} {I : Nat → Nat → Int32} {L : Nat → Nat → Int64} {res : ab_Re} (v1 : Int32) (hc : nc ≤ res.2.2.2.2.2.1) (hs : ns ≤ res.2.2.2.2.2.2)
    (h : (vp_in v1 700) ∧ (((I kx_tape v1.toNatClampNeg) < 97 → (ab_E w d mt_Reader_isLetter 26 [.ref kx_reader, .int v1] [] (I, L, ab_RR, n, nc, ns) res)) ∧ (¬ (I kx_tape v1.toNatClampNeg) < 97 → ((122 < (I kx_tape v1.toNatClampNeg) → (ab_E w d mt_Reader_isLetter 26 [.ref kx_reader, .int v1] [] (I, L, ab_RR, n, nc, ns) res)) ∧ (¬ 122 < (I kx_tape v1.toNatClampNeg) → (ab_E w d mt_Reader_isLetter 27 [.ref kx_reader, .int v1] [.int 1] (I, L, ab_RR, n, nc, ns) res)))))) : ab_E w d mt_Reader_isLetter 0 [.ref kx_reader, .int v1] [] (I, L, ab_RR, n, nc, ns) res := by
  refine ab_aload_n (i := 0) d_Reader_isLetter_0 rfl rfl ?_
  refine ab_getR (ci := 4) (k := 0) (j := kx_tape) d_Reader_isLetter_1 v_767 rfl (by decide) (by decide) rfl r_kx_reader_0 ?_
  refine ab_iload_n (i := 1) d_Reader_isLetter_4 rfl rfl ?_
  have g1 := h.1; have h := h.2
  refine ab_bald d_Reader_isLetter_5 rfl rfl g1 ?_
  refine ab_bipush (v := 97) d_Reader_isLetter_6 rfl ?_
  refine ab_icmp_lt (tgt := 26) d_Reader_isLetter_8 (by decide) (fun c2 => ?_) (fun c2 => ?_)
  · have h := h.1 c2
    exact h
  · have h := h.2 c2
    refine ab_aload_n (i := 0) d_Reader_isLetter_11 rfl rfl ?_
    refine ab_getR (ci := 4) (k := 0) (j := kx_tape) d_Reader_isLetter_12 v_767 rfl (by decide) (by decide) rfl r_kx_reader_0 ?_
    refine ab_iload_n (i := 1) d_Reader_isLetter_15 rfl rfl ?_
    refine ab_bald d_Reader_isLetter_16 rfl rfl g1 ?_
    refine ab_bipush (v := 122) d_Reader_isLetter_17 rfl ?_
    refine ab_icmp_gt (tgt := 26) d_Reader_isLetter_19 (by decide) (fun c3 => ?_) (fun c3 => ?_)
    · have h := h.1 c3
      exact h
    · have h := h.2 c3
      refine ab_iconst (v := 1) d_Reader_isLetter_22 rfl ?_
      refine ab_goto (tgt := 27) d_Reader_isLetter_23 (by decide) ?_
      exact h
theorem q_Reader_isLetter_26 {w : ab_Wd} {d n nc ns : Nat} {I : Nat → Nat → Int32} {L : Nat → Nat → Int64} {res : ab_Re} (v1 : Int32) (hc : nc ≤ res.2.2.2.2.2.1) (hs : ns ≤ res.2.2.2.2.2.2)
    (h : ab_E w d mt_Reader_isLetter 27 [.ref kx_reader, .int v1] [.int 0] (I, L, ab_RR, n, nc, ns) res) : ab_E w d mt_Reader_isLetter 26 [.ref kx_reader, .int v1] [] (I, L, ab_RR, n, nc, ns) res := by
  refine ab_iconst (v := 0) d_Reader_isLetter_26 rfl ?_
  exact h
theorem q_Reader_isLetter_27 {w : ab_Wd} {d n nc ns : Nat} {I : Nat → Nat → Int32} {L : Nat → Nat → Int64} {res : ab_Re} (v1 : Int32) (s0 : Int32) (hc : nc ≤ res.2.2.2.2.2.1) (hs : ns ≤ res.2.2.2.2.2.2)
    (h : (narrow .boolean (.int s0) = .int s0) ∧ res = (.inl (some (.int s0)), (I, L, ab_RR, n, nc, ns))) : ab_E w d mt_Reader_isLetter 27 [.ref kx_reader, .int v1] [.int s0] (I, L, ab_RR, n, nc, ns) res := by
  have g := h.1; have h := h.2
  exact ab_iret (ty := .boolean) d_Reader_isLetter_27 rfl g h
