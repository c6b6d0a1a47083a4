theorem d_Reader_readText_0 : decode (ab_bc mt_Reader_readText) 0 = .ok (.aload_n 0, 1) := by decide +kernel
theorem d_Reader_readText_1 : decode (ab_bc mt_Reader_readText) 1 = .ok (.getfield 37, 3) := by decide +kernel
theorem d_Reader_readText_4 : decode (ab_bc mt_Reader_readText) 4 = .ok (.invokevirtual 41, 3) := by decide +kernel
theorem d_Reader_readText_7 : decode (ab_bc mt_Reader_readText) 7 = .ok (.aload_n 0, 1) := by decide +kernel
theorem d_Reader_readText_8 : decode (ab_bc mt_Reader_readText) 8 = .ok (.invokevirtual 46, 3) := by decide +kernel
theorem d_Reader_readText_11 : decode (ab_bc mt_Reader_readText) 11 = .ok (.iconst 0, 1) := by decide +kernel
theorem d_Reader_readText_12 : decode (ab_bc mt_Reader_readText) 12 = .ok (.istore_n 1, 1) := by decide +kernel
theorem d_Reader_readText_13 : decode (ab_bc mt_Reader_readText) 13 = .ok (.iload_n 1, 1) := by decide +kernel
theorem d_Reader_readText_14 : decode (ab_bc mt_Reader_readText) 14 = .ok (.sipush 700, 3) := by decide +kernel
theorem d_Reader_readText_17 : decode (ab_bc mt_Reader_readText) 17 = .ok (.if_icmp .ge 36, 3) := by decide +kernel
theorem d_Reader_readText_20 : decode (ab_bc mt_Reader_readText) 20 = .ok (.aload_n 0, 1) := by decide +kernel
theorem d_Reader_readText_21 : decode (ab_bc mt_Reader_readText) 21 = .ok (.getfield 15, 3) := by decide +kernel
theorem d_Reader_readText_24 : decode (ab_bc mt_Reader_readText) 24 = .ok (.ifCond .eq 29, 3) := by decide +kernel
theorem d_Reader_readText_27 : decode (ab_bc mt_Reader_readText) 27 = .ok (.aload_n 0, 1) := by decide +kernel
theorem d_Reader_readText_28 : decode (ab_bc mt_Reader_readText) 28 = .ok (.getfield 24, 3) := by decide +kernel
theorem d_Reader_readText_31 : decode (ab_bc mt_Reader_readText) 31 = .ok (.ifCond .ne 22, 3) := by decide +kernel
theorem d_Reader_readText_34 : decode (ab_bc mt_Reader_readText) 34 = .ok (.aload_n 0, 1) := by decide +kernel
theorem d_Reader_readText_35 : decode (ab_bc mt_Reader_readText) 35 = .ok (.iload_n 1, 1) := by decide +kernel
theorem d_Reader_readText_36 : decode (ab_bc mt_Reader_readText) 36 = .ok (.ifCond .ne 7, 3) := by decide +kernel
theorem d_Reader_readText_39 : decode (ab_bc mt_Reader_readText) 39 = .ok (.iconst 1, 1) := by decide +kernel
theorem d_Reader_readText_40 : decode (ab_bc mt_Reader_readText) 40 = .ok (.goto 4, 3) := by decide +kernel
theorem d_Reader_readText_43 : decode (ab_bc mt_Reader_readText) 43 = .ok (.iconst 0, 1) := by decide +kernel
theorem d_Reader_readText_44 : decode (ab_bc mt_Reader_readText) 44 = .ok (.invokevirtual 49, 3) := by decide +kernel
theorem d_Reader_readText_47 : decode (ab_bc mt_Reader_readText) 47 = .ok (.iinc 1 1, 3) := by decide +kernel
theorem d_Reader_readText_50 : decode (ab_bc mt_Reader_readText) 50 = .ok (.goto (-37), 3) := by decide +kernel
theorem d_Reader_readText_53 : decode (ab_bc mt_Reader_readText) 53 = .ok (.aload_n 0, 1) := by decide +kernel
theorem d_Reader_readText_54 : decode (ab_bc mt_Reader_readText) 54 = .ok (.getfield 37, 3) := by decide +kernel
theorem d_Reader_readText_57 : decode (ab_bc mt_Reader_readText) 57 = .ok (.invokevirtual 53, 3) := by decide +kernel
theorem d_Reader_readText_60 : decode (ab_bc mt_Reader_readText) 60 = .ok (.aload_n 0, 1) := by decide +kernel
theorem d_Reader_readText_61 : decode (ab_bc mt_Reader_readText) 61 = .ok (.getfield 24, 3) := by decide +kernel
theorem d_Reader_readText_64 : decode (ab_bc mt_Reader_readText) 64 = .ok (.ireturn, 1) := by decide +kernel
-- CableKeeper$Reader.readText()I over kx_reader
theorem q_Reader_readText_0 {w : ab_Wd} {d n nc ns : Nat} {I : Nat → Nat → Int32} {L : Nat → Nat → Int64} {res : ab_Re}  (hc : nc ≤ res.2.2.2.2.2.1) (hs : ns ≤ res.2.2.2.2.2.2)
    (h : ∃ (I2 : Nat → Nat → Int32), ab_C w d mt_Cables_clear [.ref kx_trial] (I, L, ab_RR, n, nc, ns) (.inl none, (I2, L, ab_RR, n, nc, ns)) ∧ ∃ (I4 : Nat → Nat → Int32), ab_C w d mt_Reader_toNext [.ref kx_reader] (I2, L, ab_RR, n, nc, ns) (.inl none, (I4, L, ab_RR, n, nc, ns)) ∧ ab_E w (d + 1) mt_Reader_readText 13 [.ref kx_reader, .int 0] [] (I4, L, ab_RR, n, nc, ns) res) : ab_E w (d + 1) mt_Reader_readText 0 [.ref kx_reader, .null] [] (I, L, ab_RR, n, nc, ns) res := by
  refine ab_aload_n (i := 0) d_Reader_readText_0 rfl rfl ?_
  refine ab_getR (ci := 4) (k := 2) (j := kx_trial) d_Reader_readText_1 v_769 rfl (by decide) (by decide) rfl r_kx_reader_2 ?_
  obtain ⟨I2, hC, h⟩ := h
  refine ab_callV (me2 := mt_Cables_clear) (b := kx_trial) (as := []) (st := []) (rv := none) (M2 := (I2, L, ab_RR, n, nc, ns)) d_Reader_readText_4 ce_Cables_clear v_800 v_801 v_802 (by decide) rfl (Nat.le_of_ble_eq_true rfl) hC (Nat.le_refl _) (Nat.le_refl _) hc hs (fun j h9 => by cases h9) (fun _ _ => rfl) ?_
  show ab_E w (d + 1) mt_Reader_readText 7 [.ref kx_reader, .null] [] (I2, L, ab_RR, n, nc, ns) res
  refine ab_aload_n (i := 0) d_Reader_readText_7 rfl rfl ?_
  obtain ⟨I4, hC, h⟩ := h
  refine ab_callV (me2 := mt_Reader_toNext) (b := kx_reader) (as := []) (st := []) (rv := none) (M2 := (I4, L, ab_RR, n, nc, ns)) d_Reader_readText_8 ce_Reader_toNext v_804 v_806 v_14 (by decide) rfl (Nat.le_of_ble_eq_true rfl) hC (Nat.le_refl _) (Nat.le_refl _) hc hs (fun j h9 => by cases h9) (fun _ _ => rfl) ?_
  show ab_E w (d + 1) mt_Reader_readText 11 [.ref kx_reader, .null] [] (I4, L, ab_RR, n, nc, ns) res
  refine ab_iconst (v := 0) d_Reader_readText_11 rfl ?_
  refine ab_istore_n (i := 1) d_Reader_readText_12 rfl (by decide) (Or.inr rfl) ?_
  exact h
theorem q_Reader_readText_13 {w : ab_Wd} {d n nc ns : Nat} {I : Nat → Nat → Int32} {L : Nat → Nat → Int64} {res : ab_Re} (v1 : Int32) (hc : nc ≤ res.2.2.2.2.2.1) (hs : ns ≤ res.2.2.2.2.2.2)
    (h : ((700 ≤ v1 → (ab_E w (d + 1) mt_Reader_readText 53 [.ref kx_reader, .int v1] [] (I, L, ab_RR, n, nc, ns) res)) ∧ (¬ 700 ≤ v1 → (((I kx_reader 4) = 0 → (ab_E w (d + 1) mt_Reader_readText 53 [.ref kx_reader, .int v1] [] (I, L, ab_RR, n, nc, ns) res)) ∧ (¬ (I kx_reader 4) = 0 → ((¬ (I kx_reader 7) = 0 → (ab_E w (d + 1) mt_Reader_readText 53 [.ref kx_reader, .int v1] [] (I, L, ab_RR, n, nc, ns) res)) ∧ ((I kx_reader 7) = 0 → ((¬ v1 = 0 → (ab_E w (d + 1) mt_Reader_readText 44 [.ref kx_reader, .int v1] [.int 0, .ref kx_reader] (I, L, ab_RR, n, nc, ns) res)) ∧ (v1 = 0 → (ab_E w (d + 1) mt_Reader_readText 44 [.ref kx_reader, .int v1] [.int 1, .ref kx_reader] (I, L, ab_RR, n, nc, ns) res)))))))))) : ab_E w (d + 1) mt_Reader_readText 13 [.ref kx_reader, .int v1] [] (I, L, ab_RR, n, nc, ns) res := by
  refine ab_iload_n (i := 1) d_Reader_readText_13 rfl rfl ?_
  refine ab_sipush (v := 700) d_Reader_readText_14 rfl ?_
  refine ab_icmp_ge (tgt := 53) d_Reader_readText_17 (by decide) (fun c1 => ?_) (fun c1 => ?_)
  · have h := h.1 c1
    exact h
  · have h := h.2 c1
    refine ab_aload_n (i := 0) d_Reader_readText_20 rfl rfl ?_
    refine ab_getI (ci := 4) (k := 4) d_Reader_readText_21 v_771 rfl (by decide) (by decide) rfl ?_
    refine ab_if_eq (tgt := 53) d_Reader_readText_24 (by decide) (fun c2 => ?_) (fun c2 => ?_)
    · have h := h.1 c2
      exact h
    · have h := h.2 c2
      refine ab_aload_n (i := 0) d_Reader_readText_27 rfl rfl ?_
      refine ab_getI (ci := 4) (k := 7) d_Reader_readText_28 v_774 rfl (by decide) (by decide) rfl ?_
      refine ab_if_ne (tgt := 53) d_Reader_readText_31 (by decide) (fun c3 => ?_) (fun c3 => ?_)
      · have h := h.1 c3
        exact h
      · have h := h.2 c3
        refine ab_aload_n (i := 0) d_Reader_readText_34 rfl rfl ?_
        refine ab_iload_n (i := 1) d_Reader_readText_35 rfl rfl ?_
        refine ab_if_ne (tgt := 43) d_Reader_readText_36 (by decide) (fun c4 => ?_) (fun c4 => ?_)
        · have h := h.1 c4
          refine ab_iconst (v := 0) d_Reader_readText_43 rfl ?_
          exact h
        · have h := h.2 c4
          refine ab_iconst (v := 1) d_Reader_readText_39 rfl ?_
          refine ab_goto (tgt := 44) d_Reader_readText_40 (by decide) ?_
          exact h
theorem q_Reader_readText_44 {w : ab_Wd} {d n nc ns : Nat} {I : Nat → Nat → Int32} {L : Nat → Nat → Int64} {res : ab_Re} (v1 : Int32) (s1 : Int32) (hc : nc ≤ res.2.2.2.2.2.1) (hs : ns ≤ res.2.2.2.2.2.2)
    (h : ∃ (I2 : Nat → Nat → Int32), ab_C w d mt_Reader_readClause [.ref kx_reader, .int s1] (I, L, ab_RR, n, nc, ns) (.inl none, (I2, L, ab_RR, n, nc, ns)) ∧ ab_E w (d + 1) mt_Reader_readText 13 [.ref kx_reader, .int (v1 + 1)] [] (I2, L, ab_RR, n, nc, ns) res) : ab_E w (d + 1) mt_Reader_readText 44 [.ref kx_reader, .int v1] [.int s1, .ref kx_reader] (I, L, ab_RR, n, nc, ns) res := by
  obtain ⟨I2, hC, h⟩ := h
  refine ab_callV (me2 := mt_Reader_readClause) (b := kx_reader) (as := [.int s1]) (st := []) (rv := none) (M2 := (I2, L, ab_RR, n, nc, ns)) d_Reader_readText_44 ce_Reader_readClause v_824 v_826 v_19 (by decide) rfl (Nat.le_of_ble_eq_true rfl) hC (Nat.le_refl _) (Nat.le_refl _) hc hs (fun j h9 => by cases h9) (fun _ _ => rfl) ?_
  show ab_E w (d + 1) mt_Reader_readText 47 [.ref kx_reader, .int v1] [] (I2, L, ab_RR, n, nc, ns) res
  refine ab_iinc (i := 1) (v := (v1 + 1)) d_Reader_readText_47 rfl rfl (by decide) (Or.inr rfl) ?_
  refine ab_goto (tgt := 13) d_Reader_readText_50 (by decide) ?_
  exact h
theorem q_Reader_readText_53 {w : ab_Wd} {d n nc ns : Nat} {I : Nat → Nat → Int32} {L : Nat → Nat → Int64} {res : ab_Re} (v1 : Int32) (hc : nc ≤ res.2.2.2.2.2.1) (hs : ns ≤ res.2.2.2.2.2.2)
    (h : ∃ (I2 : Nat → Nat → Int32), ab_C w d mt_Cables_sort [.ref kx_trial] (I, L, ab_RR, n, nc, ns) (.inl none, (I2, L, ab_RR, n, nc, ns)) ∧ res = (.inl (some (.int (I2 kx_reader 7))), (I2, L, ab_RR, n, nc, ns))) : ab_E w (d + 1) mt_Reader_readText 53 [.ref kx_reader, .int v1] [] (I, L, ab_RR, n, nc, ns) res := by
  refine ab_aload_n (i := 0) d_Reader_readText_53 rfl rfl ?_
  refine ab_getR (ci := 4) (k := 2) (j := kx_trial) d_Reader_readText_54 v_769 rfl (by decide) (by decide) rfl r_kx_reader_2 ?_
  obtain ⟨I2, hC, h⟩ := h
  refine ab_callV (me2 := mt_Cables_sort) (b := kx_trial) (as := []) (st := []) (rv := none) (M2 := (I2, L, ab_RR, n, nc, ns)) d_Reader_readText_57 ce_Cables_sort v_909 v_592 v_593 (by decide) rfl (Nat.le_of_ble_eq_true rfl) hC (Nat.le_refl _) (Nat.le_refl _) hc hs (fun j h9 => by cases h9) (fun _ _ => rfl) ?_
  show ab_E w (d + 1) mt_Reader_readText 60 [.ref kx_reader, .int v1] [] (I2, L, ab_RR, n, nc, ns) res
  refine ab_aload_n (i := 0) d_Reader_readText_60 rfl rfl ?_
  refine ab_getI (ci := 4) (k := 7) d_Reader_readText_61 v_774 rfl (by decide) (by decide) rfl ?_
  exact ab_iret (ty := .int) d_Reader_readText_64 rfl rfl h
theorem d_Reader_readClause_0 : decode (ab_bc mt_Reader_readClause) 0 = .ok (.aload_n 0, 1) := by decide +kernel
theorem d_Reader_readClause_1 : decode (ab_bc mt_Reader_readClause) 1 = .ok (.ldc 56, 2) := by decide +kernel
theorem d_Reader_readClause_3 : decode (ab_bc mt_Reader_readClause) 3 = .ok (.invokevirtual 58, 3) := by decide +kernel
theorem d_Reader_readClause_6 : decode (ab_bc mt_Reader_readClause) 6 = .ok (.ifCond .eq 11, 3) := by decide +kernel
theorem d_Reader_readClause_9 : decode (ab_bc mt_Reader_readClause) 9 = .ok (.aload_n 0, 1) := by decide +kernel
theorem d_Reader_readClause_10 : decode (ab_bc mt_Reader_readClause) 10 = .ok (.iload_n 1, 1) := by decide +kernel
theorem d_Reader_readClause_11 : decode (ab_bc mt_Reader_readClause) 11 = .ok (.invokevirtual 62, 3) := by decide +kernel
theorem d_Reader_readClause_14 : decode (ab_bc mt_Reader_readClause) 14 = .ok (.goto 40, 3) := by decide +kernel
theorem d_Reader_readClause_17 : decode (ab_bc mt_Reader_readClause) 17 = .ok (.aload_n 0, 1) := by decide +kernel
theorem d_Reader_readClause_18 : decode (ab_bc mt_Reader_readClause) 18 = .ok (.ldc 65, 2) := by decide +kernel
theorem d_Reader_readClause_20 : decode (ab_bc mt_Reader_readClause) 20 = .ok (.invokevirtual 58, 3) := by decide +kernel
theorem d_Reader_readClause_23 : decode (ab_bc mt_Reader_readClause) 23 = .ok (.ifCond .eq 10, 3) := by decide +kernel
theorem d_Reader_readClause_26 : decode (ab_bc mt_Reader_readClause) 26 = .ok (.aload_n 0, 1) := by decide +kernel
theorem d_Reader_readClause_27 : decode (ab_bc mt_Reader_readClause) 27 = .ok (.invokevirtual 67, 3) := by decide +kernel
theorem d_Reader_readClause_30 : decode (ab_bc mt_Reader_readClause) 30 = .ok (.goto 24, 3) := by decide +kernel
theorem d_Reader_readClause_33 : decode (ab_bc mt_Reader_readClause) 33 = .ok (.aload_n 0, 1) := by decide +kernel
theorem d_Reader_readClause_34 : decode (ab_bc mt_Reader_readClause) 34 = .ok (.ldc 70, 2) := by decide +kernel
theorem d_Reader_readClause_36 : decode (ab_bc mt_Reader_readClause) 36 = .ok (.invokevirtual 58, 3) := by decide +kernel
theorem d_Reader_readClause_39 : decode (ab_bc mt_Reader_readClause) 39 = .ok (.ifCond .eq 10, 3) := by decide +kernel
theorem d_Reader_readClause_42 : decode (ab_bc mt_Reader_readClause) 42 = .ok (.aload_n 0, 1) := by decide +kernel
theorem d_Reader_readClause_43 : decode (ab_bc mt_Reader_readClause) 43 = .ok (.invokevirtual 72, 3) := by decide +kernel
theorem d_Reader_readClause_46 : decode (ab_bc mt_Reader_readClause) 46 = .ok (.goto 8, 3) := by decide +kernel
theorem d_Reader_readClause_49 : decode (ab_bc mt_Reader_readClause) 49 = .ok (.aload_n 0, 1) := by decide +kernel
theorem d_Reader_readClause_50 : decode (ab_bc mt_Reader_readClause) 50 = .ok (.iconst 1, 1) := by decide +kernel
theorem d_Reader_readClause_51 : decode (ab_bc mt_Reader_readClause) 51 = .ok (.invokevirtual 75, 3) := by decide +kernel
theorem d_Reader_readClause_54 : decode (ab_bc mt_Reader_readClause) 54 = .ok (.aload_n 0, 1) := by decide +kernel
theorem d_Reader_readClause_55 : decode (ab_bc mt_Reader_readClause) 55 = .ok (.getfield 15, 3) := by decide +kernel
theorem d_Reader_readClause_58 : decode (ab_bc mt_Reader_readClause) 58 = .ok (.iconst 3, 1) := by decide +kernel
theorem d_Reader_readClause_59 : decode (ab_bc mt_Reader_readClause) 59 = .ok (.if_icmp .eq 8, 3) := by decide +kernel
theorem d_Reader_readClause_62 : decode (ab_bc mt_Reader_readClause) 62 = .ok (.aload_n 0, 1) := by decide +kernel
theorem d_Reader_readClause_63 : decode (ab_bc mt_Reader_readClause) 63 = .ok (.iconst 1, 1) := by decide +kernel
theorem d_Reader_readClause_64 : decode (ab_bc mt_Reader_readClause) 64 = .ok (.invokevirtual 75, 3) := by decide +kernel
theorem d_Reader_readClause_67 : decode (ab_bc mt_Reader_readClause) 67 = .ok (.aload_n 0, 1) := by decide +kernel
theorem d_Reader_readClause_68 : decode (ab_bc mt_Reader_readClause) 68 = .ok (.invokevirtual 46, 3) := by decide +kernel
theorem d_Reader_readClause_71 : decode (ab_bc mt_Reader_readClause) 71 = .ok (.return_, 1) := by decide +kernel
-- CableKeeper$Reader.readClause(Z)V over kx_reader
theorem q_Reader_readClause_0 {w : ab_Wd} {d n nc ns : Nat} {I : Nat → Nat → Int32} {L : Nat → Nat → Int64} {res : ab_Re} (v1 : Int32) (hc : nc ≤ res.2.2.2.2.2.1) (hs : ns ≤ res.2.2.2.2.2.2)
    (h : ∃ (r1 : Int32), ab_C w d mt_Reader_isWord [.ref kx_reader, .ref 32] (I, L, ab_RR, n, nc, ns) (.inl (some (.int r1)), (I, L, ab_RR, n, nc, ns)) ∧ ((r1 = 0 → (∃ (r3 : Int32), ab_C w d mt_Reader_isWord [.ref kx_reader, .ref 96] (I, L, ab_RR, n, nc, ns) (.inl (some (.int r3)), (I, L, ab_RR, n, nc, ns)) ∧ ((r3 = 0 → (∃ (r5 : Int32), ab_C w d mt_Reader_isWord [.ref kx_reader, .ref 160] (I, L, ab_RR, n, nc, ns) (.inl (some (.int r5)), (I, L, ab_RR, n, nc, ns)) ∧ ((r5 = 0 → (∃ (I8 : Nat → Nat → Int32), ab_C w d mt_Reader_fail [.ref kx_reader, .int 1] (I, L, ab_RR, n, nc, ns) (.inl none, (I8, L, ab_RR, n, nc, ns)) ∧ ab_E w (d + 1) mt_Reader_readClause 54 [.ref kx_reader, .int v1] [] (I8, L, ab_RR, n, nc, ns) res)) ∧ (¬ r5 = 0 → (∃ (I10 : Nat → Nat → Int32), ab_C w d mt_Reader_readBroken [.ref kx_reader] (I, L, ab_RR, n, nc, ns) (.inl none, (I10, L, ab_RR, n, nc, ns)) ∧ ab_E w (d + 1) mt_Reader_readClause 54 [.ref kx_reader, .int v1] [] (I10, L, ab_RR, n, nc, ns) res))))) ∧ (¬ r3 = 0 → (∃ (I12 : Nat → Nat → Int32), ab_C w d mt_Reader_readCable [.ref kx_reader] (I, L, ab_RR, n, nc, ns) (.inl none, (I12, L, ab_RR, n, nc, ns)) ∧ ab_E w (d + 1) mt_Reader_readClause 54 [.ref kx_reader, .int v1] [] (I12, L, ab_RR, n, nc, ns) res))))) ∧ (¬ r1 = 0 → (∃ (I14 : Nat → Nat → Int32), ab_C w d mt_Reader_readSites [.ref kx_reader, .int v1] (I, L, ab_RR, n, nc, ns) (.inl none, (I14, L, ab_RR, n, nc, ns)) ∧ ab_E w (d + 1) mt_Reader_readClause 54 [.ref kx_reader, .int v1] [] (I14, L, ab_RR, n, nc, ns) res)))) : ab_E w (d + 1) mt_Reader_readClause 0 [.ref kx_reader, .int v1] [] (I, L, ab_RR, n, nc, ns) res := by
  refine ab_aload_n (i := 0) d_Reader_readClause_0 rfl rfl ?_
  refine ab_ldcS (j := 0) (tx := "sites") d_Reader_readClause_1 (by decide) (by decide +kernel) ?_
  obtain ⟨r1, hC, h⟩ := h
  refine ab_callV (me2 := mt_Reader_isWord) (b := kx_reader) (as := [.ref 32]) (st := []) (rv := (some (.int r1))) (M2 := (I, L, ab_RR, n, nc, ns)) d_Reader_readClause_3 ce_Reader_isWord v_829 v_831 v_20 (by decide) rfl (Nat.le_of_ble_eq_true rfl) hC (Nat.le_refl _) (Nat.le_refl _) hc hs (fun j h9 => by cases h9) (fun _ _ => rfl) ?_
  show ab_E w (d + 1) mt_Reader_readClause 6 [.ref kx_reader, .int v1] [.int r1] (I, L, ab_RR, n, nc, ns) res
  refine ab_if_eq (tgt := 17) d_Reader_readClause_6 (by decide) (fun c2 => ?_) (fun c2 => ?_)
  · have h := h.1 c2
    refine ab_aload_n (i := 0) d_Reader_readClause_17 rfl rfl ?_
    refine ab_ldcS (j := 1) (tx := "cable") d_Reader_readClause_18 (by decide) (by decide +kernel) ?_
    obtain ⟨r3, hC, h⟩ := h
    refine ab_callV (me2 := mt_Reader_isWord) (b := kx_reader) (as := [.ref 96]) (st := []) (rv := (some (.int r3))) (M2 := (I, L, ab_RR, n, nc, ns)) d_Reader_readClause_20 ce_Reader_isWord v_829 v_831 v_20 (by decide) rfl (Nat.le_of_ble_eq_true rfl) hC (Nat.le_refl _) (Nat.le_refl _) hc hs (fun j h9 => by cases h9) (fun _ _ => rfl) ?_
    show ab_E w (d + 1) mt_Reader_readClause 23 [.ref kx_reader, .int v1] [.int r3] (I, L, ab_RR, n, nc, ns) res
    refine ab_if_eq (tgt := 33) d_Reader_readClause_23 (by decide) (fun c4 => ?_) (fun c4 => ?_)
    · have h := h.1 c4
      refine ab_aload_n (i := 0) d_Reader_readClause_33 rfl rfl ?_
      refine ab_ldcS (j := 2) (tx := "broken") d_Reader_readClause_34 (by decide) (by decide +kernel) ?_
      obtain ⟨r5, hC, h⟩ := h
      refine ab_callV (me2 := mt_Reader_isWord) (b := kx_reader) (as := [.ref 160]) (st := []) (rv := (some (.int r5))) (M2 := (I, L, ab_RR, n, nc, ns)) d_Reader_readClause_36 ce_Reader_isWord v_829 v_831 v_20 (by decide) rfl (Nat.le_of_ble_eq_true rfl) hC (Nat.le_refl _) (Nat.le_refl _) hc hs (fun j h9 => by cases h9) (fun _ _ => rfl) ?_
      show ab_E w (d + 1) mt_Reader_readClause 39 [.ref kx_reader, .int v1] [.int r5] (I, L, ab_RR, n, nc, ns) res
      refine ab_if_eq (tgt := 49) d_Reader_readClause_39 (by decide) (fun c6 => ?_) (fun c6 => ?_)
      · have h := h.1 c6
        refine ab_aload_n (i := 0) d_Reader_readClause_49 rfl rfl ?_
        refine ab_iconst (v := 1) d_Reader_readClause_50 rfl ?_
        obtain ⟨I8, hC, h⟩ := h
        refine ab_callV (me2 := mt_Reader_fail) (b := kx_reader) (as := [.int 1]) (st := []) (rv := none) (M2 := (I8, L, ab_RR, n, nc, ns)) d_Reader_readClause_51 ce_Reader_fail v_885 v_887 v_22 (by decide) rfl (Nat.le_of_ble_eq_true rfl) hC (Nat.le_refl _) (Nat.le_refl _) hc hs (fun j h9 => by cases h9) (fun _ _ => rfl) ?_
        show ab_E w (d + 1) mt_Reader_readClause 54 [.ref kx_reader, .int v1] [] (I8, L, ab_RR, n, nc, ns) res
        exact h
      · have h := h.2 c6
        refine ab_aload_n (i := 0) d_Reader_readClause_42 rfl rfl ?_
        obtain ⟨I10, hC, h⟩ := h
        refine ab_callV (me2 := mt_Reader_readBroken) (b := kx_reader) (as := []) (st := []) (rv := none) (M2 := (I10, L, ab_RR, n, nc, ns)) d_Reader_readClause_43 ce_Reader_readBroken v_904 v_906 v_26 (by decide) rfl (Nat.le_of_ble_eq_true rfl) hC (Nat.le_refl _) (Nat.le_refl _) hc hs (fun j h9 => by cases h9) (fun _ _ => rfl) ?_
        show ab_E w (d + 1) mt_Reader_readClause 46 [.ref kx_reader, .int v1] [] (I10, L, ab_RR, n, nc, ns) res
        refine ab_goto (tgt := 54) d_Reader_readClause_46 (by decide) ?_
        exact h
    · have h := h.2 c4
      refine ab_aload_n (i := 0) d_Reader_readClause_26 rfl rfl ?_
      obtain ⟨I12, hC, h⟩ := h
      refine ab_callV (me2 := mt_Reader_readCable) (b := kx_reader) (as := []) (st := []) (rv := none) (M2 := (I12, L, ab_RR, n, nc, ns)) d_Reader_readClause_27 ce_Reader_readCable v_894 v_896 v_24 (by decide) rfl (Nat.le_of_ble_eq_true rfl) hC (Nat.le_refl _) (Nat.le_refl _) hc hs (fun j h9 => by cases h9) (fun _ _ => rfl) ?_
      show ab_E w (d + 1) mt_Reader_readClause 30 [.ref kx_reader, .int v1] [] (I12, L, ab_RR, n, nc, ns) res
      refine ab_goto (tgt := 54) d_Reader_readClause_30 (by decide) ?_
      exact h
  · have h := h.2 c2
    refine ab_aload_n (i := 0) d_Reader_readClause_9 rfl rfl ?_
    refine ab_iload_n (i := 1) d_Reader_readClause_10 rfl rfl ?_
    obtain ⟨I14, hC, h⟩ := h
    refine ab_callV (me2 := mt_Reader_readSites) (b := kx_reader) (as := [.int v1]) (st := []) (rv := none) (M2 := (I14, L, ab_RR, n, nc, ns)) d_Reader_readClause_11 ce_Reader_readSites v_881 v_883 v_21 (by decide) rfl (Nat.le_of_ble_eq_true rfl) hC (Nat.le_refl _) (Nat.le_refl _) hc hs (fun j h9 => by cases h9) (fun _ _ => rfl) ?_
    show ab_E w (d + 1) mt_Reader_readClause 14 [.ref kx_reader, .int v1] [] (I14, L, ab_RR, n, nc, ns) res
    refine ab_goto (tgt := 54) d_Reader_readClause_14 (by decide) ?_
    exact h
theorem q_Reader_readClause_54 {w : ab_Wd} {d n nc ns : Nat} {I : Nat → Nat → Int32} {L : Nat → Nat → Int64} {res : ab_Re} (v1 : Int32) (hc : nc ≤ res.2.2.2.2.2.1) (hs : ns ≤ res.2.2.2.2.2.2)
    (h : (((I kx_reader 4) = 3 → (ab_E w (d + 1) mt_Reader_readClause 67 [.ref kx_reader, .int v1] [] (I, L, ab_RR, n, nc, ns) res)) ∧ (¬ (I kx_reader 4) = 3 → (∃ (I3 : Nat → Nat → Int32), ab_C w d mt_Reader_fail [.ref kx_reader, .int 1] (I, L, ab_RR, n, nc, ns) (.inl none, (I3, L, ab_RR, n, nc, ns)) ∧ ab_E w (d + 1) mt_Reader_readClause 67 [.ref kx_reader, .int v1] [] (I3, L, ab_RR, n, nc, ns) res)))) : ab_E w (d + 1) mt_Reader_readClause 54 [.ref kx_reader, .int v1] [] (I, L, ab_RR, n, nc, ns) res := by
  refine ab_aload_n (i := 0) d_Reader_readClause_54 rfl rfl ?_
  refine ab_getI (ci := 4) (k := 4) d_Reader_readClause_55 v_771 rfl (by decide) (by decide) rfl ?_
  refine ab_iconst (v := 3) d_Reader_readClause_58 rfl ?_
  refine ab_icmp_eq (tgt := 67) d_Reader_readClause_59 (by decide) (fun c1 => ?_) (fun c1 => ?_)
  · have h := h.1 c1
    exact h
  · have h := h.2 c1
    refine ab_aload_n (i := 0) d_Reader_readClause_62 rfl rfl ?_
    refine ab_iconst (v := 1) d_Reader_readClause_63 rfl ?_
    obtain ⟨I3, hC, h⟩ := h
    refine ab_callV (me2 := mt_Reader_fail) (b := kx_reader) (as := [.int 1]) (st := []) (rv := none) (M2 := (I3, L, ab_RR, n, nc, ns)) d_Reader_readClause_64 ce_Reader_fail v_885 v_887 v_22 (by decide) rfl (Nat.le_of_ble_eq_true rfl) hC (Nat.le_refl _) (Nat.le_refl _) hc hs (fun j h9 => by cases h9) (fun _ _ => rfl) ?_
    show ab_E w (d + 1) mt_Reader_readClause 67 [.ref kx_reader, .int v1] [] (I3, L, ab_RR, n, nc, ns) res
    exact h
theorem q_Reader_readClause_67 {w : ab_Wd} {d n nc ns : Nat} {I : Nat → Nat → Int32} {L : Nat → Nat → Int64} {res : ab_Re} (v1 : Int32) (hc : nc ≤ res.2.2.2.2.2.1) (hs : ns ≤ res.2.2.2.2.2.2)
    (h : ∃ (I2 : Nat → Nat → Int32), ab_C w d mt_Reader_toNext [.ref kx_reader] (I, L, ab_RR, n, nc, ns) (.inl none, (I2, L, ab_RR, n, nc, ns)) ∧ res = (.inl none, (I2, L, ab_RR, n, nc, ns))) : ab_E w (d + 1) mt_Reader_readClause 67 [.ref kx_reader, .int v1] [] (I, L, ab_RR, n, nc, ns) res := by
  refine ab_aload_n (i := 0) d_Reader_readClause_67 rfl rfl ?_
  obtain ⟨I2, hC, h⟩ := h
  refine ab_callV (me2 := mt_Reader_toNext) (b := kx_reader) (as := []) (st := []) (rv := none) (M2 := (I2, L, ab_RR, n, nc, ns)) d_Reader_readClause_68 ce_Reader_toNext v_804 v_806 v_14 (by decide) rfl (Nat.le_of_ble_eq_true rfl) hC (Nat.le_refl _) (Nat.le_refl _) hc hs (fun j h9 => by cases h9) (fun _ _ => rfl) ?_
  show ab_E w (d + 1) mt_Reader_readClause 71 [.ref kx_reader, .int v1] [] (I2, L, ab_RR, n, nc, ns) res
  exact ab_vret d_Reader_readClause_71 rfl h
theorem d_Reader_toNext_0 : decode (ab_bc mt_Reader_toNext) 0 = .ok (.aload_n 0, 1) := by decide +kernel
theorem d_Reader_toNext_1 : decode (ab_bc mt_Reader_toNext) 1 = .ok (.getfield 9, 3) := by decide +kernel
theorem d_Reader_toNext_4 : decode (ab_bc mt_Reader_toNext) 4 = .ok (.aload_n 0, 1) := by decide +kernel
theorem d_Reader_toNext_5 : decode (ab_bc mt_Reader_toNext) 5 = .ok (.getfield 34, 3) := by decide +kernel
theorem d_Reader_toNext_8 : decode (ab_bc mt_Reader_toNext) 8 = .ok (.if_icmp .ge 44, 3) := by decide +kernel
theorem d_Reader_toNext_11 : decode (ab_bc mt_Reader_toNext) 11 = .ok (.aload_n 0, 1) := by decide +kernel
theorem d_Reader_toNext_12 : decode (ab_bc mt_Reader_toNext) 12 = .ok (.getfield 30, 3) := by decide +kernel
theorem d_Reader_toNext_15 : decode (ab_bc mt_Reader_toNext) 15 = .ok (.aload_n 0, 1) := by decide +kernel
theorem d_Reader_toNext_16 : decode (ab_bc mt_Reader_toNext) 16 = .ok (.getfield 9, 3) := by decide +kernel
theorem d_Reader_toNext_19 : decode (ab_bc mt_Reader_toNext) 19 = .ok (.baload, 1) := by decide +kernel
theorem d_Reader_toNext_20 : decode (ab_bc mt_Reader_toNext) 20 = .ok (.bipush 32, 2) := by decide +kernel
theorem d_Reader_toNext_22 : decode (ab_bc mt_Reader_toNext) 22 = .ok (.if_icmp .eq 17, 3) := by decide +kernel
theorem d_Reader_toNext_25 : decode (ab_bc mt_Reader_toNext) 25 = .ok (.aload_n 0, 1) := by decide +kernel
theorem d_Reader_toNext_26 : decode (ab_bc mt_Reader_toNext) 26 = .ok (.getfield 30, 3) := by decide +kernel
theorem d_Reader_toNext_29 : decode (ab_bc mt_Reader_toNext) 29 = .ok (.aload_n 0, 1) := by decide +kernel
theorem d_Reader_toNext_30 : decode (ab_bc mt_Reader_toNext) 30 = .ok (.getfield 9, 3) := by decide +kernel
theorem d_Reader_toNext_33 : decode (ab_bc mt_Reader_toNext) 33 = .ok (.baload, 1) := by decide +kernel
theorem d_Reader_toNext_34 : decode (ab_bc mt_Reader_toNext) 34 = .ok (.bipush 10, 2) := by decide +kernel
theorem d_Reader_toNext_36 : decode (ab_bc mt_Reader_toNext) 36 = .ok (.if_icmp .ne 16, 3) := by decide +kernel
theorem d_Reader_toNext_39 : decode (ab_bc mt_Reader_toNext) 39 = .ok (.aload_n 0, 1) := by decide +kernel
theorem d_Reader_toNext_40 : decode (ab_bc mt_Reader_toNext) 40 = .ok (.dup, 1) := by decide +kernel
theorem d_Reader_toNext_41 : decode (ab_bc mt_Reader_toNext) 41 = .ok (.getfield 9, 3) := by decide +kernel
theorem d_Reader_toNext_44 : decode (ab_bc mt_Reader_toNext) 44 = .ok (.iconst 1, 1) := by decide +kernel
theorem d_Reader_toNext_45 : decode (ab_bc mt_Reader_toNext) 45 = .ok (.iadd, 1) := by decide +kernel
theorem d_Reader_toNext_46 : decode (ab_bc mt_Reader_toNext) 46 = .ok (.putfield 9, 3) := by decide +kernel
theorem d_Reader_toNext_49 : decode (ab_bc mt_Reader_toNext) 49 = .ok (.goto (-49), 3) := by decide +kernel
theorem d_Reader_toNext_52 : decode (ab_bc mt_Reader_toNext) 52 = .ok (.aload_n 0, 1) := by decide +kernel
theorem d_Reader_toNext_53 : decode (ab_bc mt_Reader_toNext) 53 = .ok (.aload_n 0, 1) := by decide +kernel
theorem d_Reader_toNext_54 : decode (ab_bc mt_Reader_toNext) 54 = .ok (.getfield 9, 3) := by decide +kernel
theorem d_Reader_toNext_57 : decode (ab_bc mt_Reader_toNext) 57 = .ok (.putfield 18, 3) := by decide +kernel
theorem d_Reader_toNext_60 : decode (ab_bc mt_Reader_toNext) 60 = .ok (.aload_n 0, 1) := by decide +kernel
theorem d_Reader_toNext_61 : decode (ab_bc mt_Reader_toNext) 61 = .ok (.getfield 9, 3) := by decide +kernel
theorem d_Reader_toNext_64 : decode (ab_bc mt_Reader_toNext) 64 = .ok (.aload_n 0, 1) := by decide +kernel
theorem d_Reader_toNext_65 : decode (ab_bc mt_Reader_toNext) 65 = .ok (.getfield 34, 3) := by decide +kernel
theorem d_Reader_toNext_68 : decode (ab_bc mt_Reader_toNext) 68 = .ok (.if_icmp .lt 11, 3) := by decide +kernel
theorem d_Reader_toNext_71 : decode (ab_bc mt_Reader_toNext) 71 = .ok (.aload_n 0, 1) := by decide +kernel
theorem d_Reader_toNext_72 : decode (ab_bc mt_Reader_toNext) 72 = .ok (.iconst 0, 1) := by decide +kernel
theorem d_Reader_toNext_73 : decode (ab_bc mt_Reader_toNext) 73 = .ok (.putfield 15, 3) := by decide +kernel
theorem d_Reader_toNext_76 : decode (ab_bc mt_Reader_toNext) 76 = .ok (.goto 82, 3) := by decide +kernel
theorem d_Reader_toNext_79 : decode (ab_bc mt_Reader_toNext) 79 = .ok (.aload_n 0, 1) := by decide +kernel
theorem d_Reader_toNext_80 : decode (ab_bc mt_Reader_toNext) 80 = .ok (.aload_n 0, 1) := by decide +kernel
theorem d_Reader_toNext_81 : decode (ab_bc mt_Reader_toNext) 81 = .ok (.getfield 9, 3) := by decide +kernel
theorem d_Reader_toNext_84 : decode (ab_bc mt_Reader_toNext) 84 = .ok (.invokevirtual 103, 3) := by decide +kernel
theorem d_Reader_toNext_87 : decode (ab_bc mt_Reader_toNext) 87 = .ok (.ifCond .eq 15, 3) := by decide +kernel
theorem d_Reader_toNext_90 : decode (ab_bc mt_Reader_toNext) 90 = .ok (.aload_n 0, 1) := by decide +kernel
theorem d_Reader_toNext_91 : decode (ab_bc mt_Reader_toNext) 91 = .ok (.iconst 1, 1) := by decide +kernel
theorem d_Reader_toNext_92 : decode (ab_bc mt_Reader_toNext) 92 = .ok (.putfield 15, 3) := by decide +kernel
theorem d_Reader_toNext_95 : decode (ab_bc mt_Reader_toNext) 95 = .ok (.aload_n 0, 1) := by decide +kernel
theorem d_Reader_toNext_96 : decode (ab_bc mt_Reader_toNext) 96 = .ok (.invokevirtual 106, 3) := by decide +kernel
theorem d_Reader_toNext_99 : decode (ab_bc mt_Reader_toNext) 99 = .ok (.goto 59, 3) := by decide +kernel
theorem d_Reader_toNext_102 : decode (ab_bc mt_Reader_toNext) 102 = .ok (.aload_n 0, 1) := by decide +kernel
theorem d_Reader_toNext_103 : decode (ab_bc mt_Reader_toNext) 103 = .ok (.aload_n 0, 1) := by decide +kernel
theorem d_Reader_toNext_104 : decode (ab_bc mt_Reader_toNext) 104 = .ok (.getfield 9, 3) := by decide +kernel
theorem d_Reader_toNext_107 : decode (ab_bc mt_Reader_toNext) 107 = .ok (.invokevirtual 109, 3) := by decide +kernel
theorem d_Reader_toNext_110 : decode (ab_bc mt_Reader_toNext) 110 = .ok (.ifCond .eq 15, 3) := by decide +kernel
theorem d_Reader_toNext_113 : decode (ab_bc mt_Reader_toNext) 113 = .ok (.aload_n 0, 1) := by decide +kernel
theorem d_Reader_toNext_114 : decode (ab_bc mt_Reader_toNext) 114 = .ok (.iconst 2, 1) := by decide +kernel
theorem d_Reader_toNext_115 : decode (ab_bc mt_Reader_toNext) 115 = .ok (.putfield 15, 3) := by decide +kernel
theorem d_Reader_toNext_118 : decode (ab_bc mt_Reader_toNext) 118 = .ok (.aload_n 0, 1) := by decide +kernel
theorem d_Reader_toNext_119 : decode (ab_bc mt_Reader_toNext) 119 = .ok (.invokevirtual 112, 3) := by decide +kernel
theorem d_Reader_toNext_122 : decode (ab_bc mt_Reader_toNext) 122 = .ok (.goto 36, 3) := by decide +kernel
theorem d_Reader_toNext_125 : decode (ab_bc mt_Reader_toNext) 125 = .ok (.aload_n 0, 1) := by decide +kernel
theorem d_Reader_toNext_126 : decode (ab_bc mt_Reader_toNext) 126 = .ok (.aload_n 0, 1) := by decide +kernel
theorem d_Reader_toNext_127 : decode (ab_bc mt_Reader_toNext) 127 = .ok (.getfield 30, 3) := by decide +kernel
theorem d_Reader_toNext_130 : decode (ab_bc mt_Reader_toNext) 130 = .ok (.aload_n 0, 1) := by decide +kernel
theorem d_Reader_toNext_131 : decode (ab_bc mt_Reader_toNext) 131 = .ok (.getfield 9, 3) := by decide +kernel
theorem d_Reader_toNext_134 : decode (ab_bc mt_Reader_toNext) 134 = .ok (.baload, 1) := by decide +kernel
theorem d_Reader_toNext_135 : decode (ab_bc mt_Reader_toNext) 135 = .ok (.bipush 59, 2) := by decide +kernel
theorem d_Reader_toNext_137 : decode (ab_bc mt_Reader_toNext) 137 = .ok (.if_icmp .ne 7, 3) := by decide +kernel
theorem d_Reader_toNext_140 : decode (ab_bc mt_Reader_toNext) 140 = .ok (.iconst 3, 1) := by decide +kernel
theorem d_Reader_toNext_141 : decode (ab_bc mt_Reader_toNext) 141 = .ok (.goto 4, 3) := by decide +kernel
theorem d_Reader_toNext_144 : decode (ab_bc mt_Reader_toNext) 144 = .ok (.iconst 4, 1) := by decide +kernel
theorem d_Reader_toNext_145 : decode (ab_bc mt_Reader_toNext) 145 = .ok (.putfield 15, 3) := by decide +kernel
theorem d_Reader_toNext_148 : decode (ab_bc mt_Reader_toNext) 148 = .ok (.aload_n 0, 1) := by decide +kernel
theorem d_Reader_toNext_149 : decode (ab_bc mt_Reader_toNext) 149 = .ok (.dup, 1) := by decide +kernel
theorem d_Reader_toNext_150 : decode (ab_bc mt_Reader_toNext) 150 = .ok (.getfield 9, 3) := by decide +kernel
theorem d_Reader_toNext_153 : decode (ab_bc mt_Reader_toNext) 153 = .ok (.iconst 1, 1) := by decide +kernel
theorem d_Reader_toNext_154 : decode (ab_bc mt_Reader_toNext) 154 = .ok (.iadd, 1) := by decide +kernel
theorem d_Reader_toNext_155 : decode (ab_bc mt_Reader_toNext) 155 = .ok (.putfield 9, 3) := by decide +kernel
theorem d_Reader_toNext_158 : decode (ab_bc mt_Reader_toNext) 158 = .ok (.return_, 1) := by decide +kernel
-- CableKeeper$Reader.toNext()V over kx_reader
theorem q_Reader_toNext_0 {w : ab_Wd} {d n nc ns : Nat} {I : Nat → Nat → Int32} {L : Nat → Nat → Int64} {res : ab_Re}  (hc : nc ≤ res.2.2.2.2.2.1) (hs : ns ≤ res.2.2.2.2.2.2)
    (h : (((I kx_reader 1) ≤ (I kx_reader 3) → (ab_E w (d + 1) mt_Reader_toNext 52 [.ref kx_reader] [] (I, L, ab_RR, n, nc, ns) res)) ∧ (¬ (I kx_reader 1) ≤ (I kx_reader 3) → ((vp_in (I kx_reader 3) 700) ∧ (((I kx_tape (I kx_reader 3).toNatClampNeg) = 32 → (ab_E w (d + 1) mt_Reader_toNext 39 [.ref kx_reader] [] (I, L, ab_RR, n, nc, ns) res)) ∧ (¬ (I kx_tape (I kx_reader 3).toNatClampNeg) = 32 → ((¬ (I kx_tape (I kx_reader 3).toNatClampNeg) = 10 → (ab_E w (d + 1) mt_Reader_toNext 52 [.ref kx_reader] [] (I, L, ab_RR, n, nc, ns) res)) ∧ ((I kx_tape (I kx_reader 3).toNatClampNeg) = 10 → (ab_E w (d + 1) mt_Reader_toNext 39 [.ref kx_reader] [] (I, L, ab_RR, n, nc, ns) res))))))))) : ab_E w (d + 1) mt_Reader_toNext 0 [.ref kx_reader] [] (I, L, ab_RR, n, nc, ns) res := by
  refine ab_aload_n (i := 0) d_Reader_toNext_0 rfl rfl ?_
  refine ab_getI (ci := 4) (k := 3) d_Reader_toNext_1 v_770 rfl (by decide) (by decide) rfl ?_
  refine ab_aload_n (i := 0) d_Reader_toNext_4 rfl rfl ?_
  refine ab_getI (ci := 4) (k := 1) d_Reader_toNext_5 v_768 rfl (by decide) (by decide) rfl ?_
  refine ab_icmp_ge (tgt := 52) d_Reader_toNext_8 (by decide) (fun c1 => ?_) (fun c1 => ?_)
  · have h := h.1 c1
    exact h
  · have h := h.2 c1
    refine ab_aload_n (i := 0) d_Reader_toNext_11 rfl rfl ?_
    refine ab_getR (ci := 4) (k := 0) (j := kx_tape) d_Reader_toNext_12 v_767 rfl (by decide) (by decide) rfl r_kx_reader_0 ?_
    refine ab_aload_n (i := 0) d_Reader_toNext_15 rfl rfl ?_
    refine ab_getI (ci := 4) (k := 3) d_Reader_toNext_16 v_770 rfl (by decide) (by decide) rfl ?_
    have g2 := h.1; have h := h.2
    refine ab_bald d_Reader_toNext_19 rfl rfl g2 ?_
    refine ab_bipush (v := 32) d_Reader_toNext_20 rfl ?_
    refine ab_icmp_eq (tgt := 39) d_Reader_toNext_22 (by decide) (fun c3 => ?_) (fun c3 => ?_)
    · have h := h.1 c3
      exact h
    · have h := h.2 c3
      refine ab_aload_n (i := 0) d_Reader_toNext_25 rfl rfl ?_
      refine ab_getR (ci := 4) (k := 0) (j := kx_tape) d_Reader_toNext_26 v_767 rfl (by decide) (by decide) rfl r_kx_reader_0 ?_
      refine ab_aload_n (i := 0) d_Reader_toNext_29 rfl rfl ?_
      refine ab_getI (ci := 4) (k := 3) d_Reader_toNext_30 v_770 rfl (by decide) (by decide) rfl ?_
      refine ab_bald d_Reader_toNext_33 rfl rfl g2 ?_
      refine ab_bipush (v := 10) d_Reader_toNext_34 rfl ?_
      refine ab_icmp_ne (tgt := 52) d_Reader_toNext_36 (by decide) (fun c4 => ?_) (fun c4 => ?_)
      · have h := h.1 c4
        exact h
      · have h := h.2 c4
        exact h
theorem q_Reader_toNext_39 {w : ab_Wd} {d n nc ns : Nat} {I : Nat → Nat → Int32} {L : Nat → Nat → Int64} {res : ab_Re}  (hc : nc ≤ res.2.2.2.2.2.1) (hs : ns ≤ res.2.2.2.2.2.2)
    (h : ab_E w (d + 1) mt_Reader_toNext 0 [.ref kx_reader] [] ((ab_up I kx_reader 3 ((I kx_reader 3) + 1)), L, ab_RR, n, nc, ns) res) : ab_E w (d + 1) mt_Reader_toNext 39 [.ref kx_reader] [] (I, L, ab_RR, n, nc, ns) res := by
  refine ab_aload_n (i := 0) d_Reader_toNext_39 rfl rfl ?_
  refine ab_dupr d_Reader_toNext_40 ?_
  refine ab_getI (ci := 4) (k := 3) d_Reader_toNext_41 v_770 rfl (by decide) (by decide) rfl ?_
  refine ab_iconst (v := 1) d_Reader_toNext_44 rfl ?_
  refine ab_iadd d_Reader_toNext_45 ?_
  refine ab_putI (ci := 4) (k := 3) d_Reader_toNext_46 v_770 rfl (by decide) (by decide) rfl (Or.inl rfl) rfl rfl ?_
  refine ab_goto (tgt := 0) d_Reader_toNext_49 (by decide) ?_
  exact h
theorem q_Reader_toNext_52 {w : ab_Wd} {d n nc ns : Nat} {I : Nat → Nat → Int32} {L : Nat → Nat → Int64} {res : ab_Re}  (hc : nc ≤ res.2.2.2.2.2.1) (hs : ns ≤ res.2.2.2.2.2.2)
    (h : (((I kx_reader 3) < (I kx_reader 1) → (∃ (r2 : Int32), ab_C w d mt_Reader_isLetter [.ref kx_reader, .int (I kx_reader 3)] ((ab_up I kx_reader 5 (I kx_reader 3)), L, ab_RR, n, nc, ns) (.inl (some (.int r2)), ((ab_up I kx_reader 5 (I kx_reader 3)), L, ab_RR, n, nc, ns)) ∧ ((r2 = 0 → (∃ (r4 : Int32), ab_C w d mt_Reader_isDigit [.ref kx_reader, .int (I kx_reader 3)] ((ab_up I kx_reader 5 (I kx_reader 3)), L, ab_RR, n, nc, ns) (.inl (some (.int r4)), ((ab_up I kx_reader 5 (I kx_reader 3)), L, ab_RR, n, nc, ns)) ∧ ((r4 = 0 → ((vp_in (I kx_reader 3) 700) ∧ ((¬ (I kx_tape (I kx_reader 3).toNatClampNeg) = 59 → (ab_E w (d + 1) mt_Reader_toNext 145 [.ref kx_reader] [.int 4, .ref kx_reader] ((ab_up I kx_reader 5 (I kx_reader 3)), L, ab_RR, n, nc, ns) res)) ∧ ((I kx_tape (I kx_reader 3).toNatClampNeg) = 59 → (ab_E w (d + 1) mt_Reader_toNext 145 [.ref kx_reader] [.int 3, .ref kx_reader] ((ab_up I kx_reader 5 (I kx_reader 3)), L, ab_RR, n, nc, ns) res))))) ∧ (¬ r4 = 0 → (∃ (I9 : Nat → Nat → Int32), ab_C w d mt_Reader_passNumber [.ref kx_reader] ((ab_up (ab_up I kx_reader 5 (I kx_reader 3)) kx_reader 4 2), L, ab_RR, n, nc, ns) (.inl none, (I9, L, ab_RR, n, nc, ns)) ∧ ab_E w (d + 1) mt_Reader_toNext 158 [.ref kx_reader] [] (I9, L, ab_RR, n, nc, ns) res))))) ∧ (¬ r2 = 0 → (∃ (I11 : Nat → Nat → Int32), ab_C w d mt_Reader_passWord [.ref kx_reader] ((ab_up (ab_up I kx_reader 5 (I kx_reader 3)) kx_reader 4 1), L, ab_RR, n, nc, ns) (.inl none, (I11, L, ab_RR, n, nc, ns)) ∧ ab_E w (d + 1) mt_Reader_toNext 158 [.ref kx_reader] [] (I11, L, ab_RR, n, nc, ns) res))))) ∧ (¬ (I kx_reader 3) < (I kx_reader 1) → (ab_E w (d + 1) mt_Reader_toNext 158 [.ref kx_reader] [] ((ab_up (ab_up I kx_reader 5 (I kx_reader 3)) kx_reader 4 0), L, ab_RR, n, nc, ns) res)))) : ab_E w (d + 1) mt_Reader_toNext 52 [.ref kx_reader] [] (I, L, ab_RR, n, nc, ns) res := by
  refine ab_aload_n (i := 0) d_Reader_toNext_52 rfl rfl ?_
  refine ab_aload_n (i := 0) d_Reader_toNext_53 rfl rfl ?_
  refine ab_getI (ci := 4) (k := 3) d_Reader_toNext_54 v_770 rfl (by decide) (by decide) rfl ?_
  refine ab_putI (ci := 4) (k := 5) d_Reader_toNext_57 v_772 rfl (by decide) (by decide) rfl (Or.inl rfl) rfl rfl ?_
  refine ab_aload_n (i := 0) d_Reader_toNext_60 rfl rfl ?_
  refine ab_getI (ci := 4) (k := 3) d_Reader_toNext_61 v_770 rfl (by decide) (by decide) rfl ?_
  refine ab_aload_n (i := 0) d_Reader_toNext_64 rfl rfl ?_
  refine ab_getI (ci := 4) (k := 1) d_Reader_toNext_65 v_768 rfl (by decide) (by decide) rfl ?_
  refine ab_icmp_lt (tgt := 79) d_Reader_toNext_68 (by decide) (fun c1 => ?_) (fun c1 => ?_)
  · have h := h.1 c1
    refine ab_aload_n (i := 0) d_Reader_toNext_79 rfl rfl ?_
    refine ab_aload_n (i := 0) d_Reader_toNext_80 rfl rfl ?_
    refine ab_getI (ci := 4) (k := 3) d_Reader_toNext_81 v_770 rfl (by decide) (by decide) rfl ?_
    obtain ⟨r2, hC, h⟩ := h
    refine ab_callV (me2 := mt_Reader_isLetter) (b := kx_reader) (as := [.int (I kx_reader 3)]) (st := []) (rv := (some (.int r2))) (M2 := ((ab_up I kx_reader 5 (I kx_reader 3)), L, ab_RR, n, nc, ns)) d_Reader_toNext_84 ce_Reader_isLetter v_808 v_810 v_15 (by decide) rfl (Nat.le_of_ble_eq_true rfl) hC (Nat.le_refl _) (Nat.le_refl _) hc hs (fun j h9 => by cases h9) (fun _ _ => rfl) ?_
    show ab_E w (d + 1) mt_Reader_toNext 87 [.ref kx_reader] [.int r2] ((ab_up I kx_reader 5 (I kx_reader 3)), L, ab_RR, n, nc, ns) res
    refine ab_if_eq (tgt := 102) d_Reader_toNext_87 (by decide) (fun c3 => ?_) (fun c3 => ?_)
    · have h := h.1 c3
      refine ab_aload_n (i := 0) d_Reader_toNext_102 rfl rfl ?_
      refine ab_aload_n (i := 0) d_Reader_toNext_103 rfl rfl ?_
      refine ab_getI (ci := 4) (k := 3) d_Reader_toNext_104 v_770 rfl (by decide) (by decide) rfl ?_
      obtain ⟨r4, hC, h⟩ := h
      refine ab_callV (me2 := mt_Reader_isDigit) (b := kx_reader) (as := [.int (I kx_reader 3)]) (st := []) (rv := (some (.int r4))) (M2 := ((ab_up I kx_reader 5 (I kx_reader 3)), L, ab_RR, n, nc, ns)) d_Reader_toNext_107 ce_Reader_isDigit v_816 v_818 v_17 (by decide) rfl (Nat.le_of_ble_eq_true rfl) hC (Nat.le_refl _) (Nat.le_refl _) hc hs (fun j h9 => by cases h9) (fun _ _ => rfl) ?_
      show ab_E w (d + 1) mt_Reader_toNext 110 [.ref kx_reader] [.int r4] ((ab_up I kx_reader 5 (I kx_reader 3)), L, ab_RR, n, nc, ns) res
      refine ab_if_eq (tgt := 125) d_Reader_toNext_110 (by decide) (fun c5 => ?_) (fun c5 => ?_)
      · have h := h.1 c5
        refine ab_aload_n (i := 0) d_Reader_toNext_125 rfl rfl ?_
        refine ab_aload_n (i := 0) d_Reader_toNext_126 rfl rfl ?_
        refine ab_getR (ci := 4) (k := 0) (j := kx_tape) d_Reader_toNext_127 v_767 rfl (by decide) (by decide) rfl r_kx_reader_0 ?_
        refine ab_aload_n (i := 0) d_Reader_toNext_130 rfl rfl ?_
        refine ab_getI (ci := 4) (k := 3) d_Reader_toNext_131 v_770 rfl (by decide) (by decide) rfl ?_
        have g6 := h.1; have h := h.2
        refine ab_bald d_Reader_toNext_134 rfl rfl g6 ?_
        refine ab_bipush (v := 59) d_Reader_toNext_135 rfl ?_
        refine ab_icmp_ne (tgt := 144) d_Reader_toNext_137 (by decide) (fun c7 => ?_) (fun c7 => ?_)
        · have h := h.1 c7
          refine ab_iconst (v := 4) d_Reader_toNext_144 rfl ?_
          exact h
        · have h := h.2 c7
          refine ab_iconst (v := 3) d_Reader_toNext_140 rfl ?_
          refine ab_goto (tgt := 145) d_Reader_toNext_141 (by decide) ?_
          exact h
      · have h := h.2 c5
        refine ab_aload_n (i := 0) d_Reader_toNext_113 rfl rfl ?_
        refine ab_iconst (v := 2) d_Reader_toNext_114 rfl ?_
        refine ab_putI (ci := 4) (k := 4) d_Reader_toNext_115 v_771 rfl (by decide) (by decide) rfl (Or.inl rfl) rfl rfl ?_
        refine ab_aload_n (i := 0) d_Reader_toNext_118 rfl rfl ?_
        obtain ⟨I9, hC, h⟩ := h
        refine ab_callV (me2 := mt_Reader_passNumber) (b := kx_reader) (as := []) (st := []) (rv := none) (M2 := (I9, L, ab_RR, n, nc, ns)) d_Reader_toNext_119 ce_Reader_passNumber v_820 v_822 v_18 (by decide) rfl (Nat.le_of_ble_eq_true rfl) hC (Nat.le_refl _) (Nat.le_refl _) hc hs (fun j h9 => by cases h9) (fun _ _ => rfl) ?_
        show ab_E w (d + 1) mt_Reader_toNext 122 [.ref kx_reader] [] (I9, L, ab_RR, n, nc, ns) res
        refine ab_goto (tgt := 158) d_Reader_toNext_122 (by decide) ?_
        exact h
    · have h := h.2 c3
      refine ab_aload_n (i := 0) d_Reader_toNext_90 rfl rfl ?_
      refine ab_iconst (v := 1) d_Reader_toNext_91 rfl ?_
      refine ab_putI (ci := 4) (k := 4) d_Reader_toNext_92 v_771 rfl (by decide) (by decide) rfl (Or.inl rfl) rfl rfl ?_
      refine ab_aload_n (i := 0) d_Reader_toNext_95 rfl rfl ?_
      obtain ⟨I11, hC, h⟩ := h
      refine ab_callV (me2 := mt_Reader_passWord) (b := kx_reader) (as := []) (st := []) (rv := none) (M2 := (I11, L, ab_RR, n, nc, ns)) d_Reader_toNext_96 ce_Reader_passWord v_812 v_814 v_16 (by decide) rfl (Nat.le_of_ble_eq_true rfl) hC (Nat.le_refl _) (Nat.le_refl _) hc hs (fun j h9 => by cases h9) (fun _ _ => rfl) ?_
      show ab_E w (d + 1) mt_Reader_toNext 99 [.ref kx_reader] [] (I11, L, ab_RR, n, nc, ns) res
      refine ab_goto (tgt := 158) d_Reader_toNext_99 (by decide) ?_
      exact h
  · have h := h.2 c1
    refine ab_aload_n (i := 0) d_Reader_toNext_71 rfl rfl ?_
    refine ab_iconst (v := 0) d_Reader_toNext_72 rfl ?_
    refine ab_putI (ci := 4) (k := 4) d_Reader_toNext_73 v_771 rfl (by decide) (by decide) rfl (Or.inl rfl) rfl rfl ?_
    refine ab_goto (tgt := 158) d_Reader_toNext_76 (by decide) ?_
    exact h
theorem q_Reader_toNext_145 {w : ab_Wd} {d n nc ns : Nat} {I : Nat → Nat → Int32} {L : Nat → Nat → Int64} {res : ab_Re} (s1 : Int32) (hc : nc ≤ res.2.2.2.2.2.1) (hs : ns ≤ res.2.2.2.2.2.2)
    (h : ab_E w (d + 1) mt_Reader_toNext 158 [.ref kx_reader] [] ((ab_up (ab_up I kx_reader 4 s1) kx_reader 3 ((I kx_reader 3) + 1)), L, ab_RR, n, nc, ns) res) : ab_E w (d + 1) mt_Reader_toNext 145 [.ref kx_reader] [.int s1, .ref kx_reader] (I, L, ab_RR, n, nc, ns) res := by
  refine ab_putI (ci := 4) (k := 4) d_Reader_toNext_145 v_771 rfl (by decide) (by decide) rfl (Or.inl rfl) rfl rfl ?_
  refine ab_aload_n (i := 0) d_Reader_toNext_148 rfl rfl ?_
  refine ab_dupr d_Reader_toNext_149 ?_
  refine ab_getI (ci := 4) (k := 3) d_Reader_toNext_150 v_770 rfl (by decide) (by decide) rfl ?_
  refine ab_iconst (v := 1) d_Reader_toNext_153 rfl ?_
  refine ab_iadd d_Reader_toNext_154 ?_
  refine ab_putI (ci := 4) (k := 3) d_Reader_toNext_155 v_770 rfl (by decide) (by decide) rfl (Or.inl rfl) rfl rfl ?_
  exact h
theorem q_Reader_toNext_158 {w : ab_Wd} {d n nc ns : Nat} {I : Nat → Nat → Int32} {L : Nat → Nat → Int64} {res : ab_Re}  (hc : nc ≤ res.2.2.2.2.2.1) (hs : ns ≤ res.2.2.2.2.2.2)
    (h : res = (.inl none, (I, L, ab_RR, n, nc, ns))) : ab_E w (d + 1) mt_Reader_toNext 158 [.ref kx_reader] [] (I, L, ab_RR, n, nc, ns) res := by
  exact ab_vret d_Reader_toNext_158 rfl h
theorem d_Reader_fail_0 : decode (ab_bc mt_Reader_fail) 0 = .ok (.aload_n 0, 1) := by decide +kernel
theorem d_Reader_fail_1 : decode (ab_bc mt_Reader_fail) 1 = .ok (.getfield 24, 3) := by decide +kernel
theorem d_Reader_fail_4 : decode (ab_bc mt_Reader_fail) 4 = .ok (.ifCond .ne 16, 3) := by decide +kernel
theorem d_Reader_fail_7 : decode (ab_bc mt_Reader_fail) 7 = .ok (.aload_n 0, 1) := by decide +kernel
theorem d_Reader_fail_8 : decode (ab_bc mt_Reader_fail) 8 = .ok (.iload_n 1, 1) := by decide +kernel
theorem d_Reader_fail_9 : decode (ab_bc mt_Reader_fail) 9 = .ok (.putfield 24, 3) := by decide +kernel
theorem d_Reader_fail_12 : decode (ab_bc mt_Reader_fail) 12 = .ok (.aload_n 0, 1) := by decide +kernel
theorem d_Reader_fail_13 : decode (ab_bc mt_Reader_fail) 13 = .ok (.aload_n 0, 1) := by decide +kernel
theorem d_Reader_fail_14 : decode (ab_bc mt_Reader_fail) 14 = .ok (.getfield 18, 3) := by decide +kernel
theorem d_Reader_fail_17 : decode (ab_bc mt_Reader_fail) 17 = .ok (.putfield 27, 3) := by decide +kernel
theorem d_Reader_fail_20 : decode (ab_bc mt_Reader_fail) 20 = .ok (.return_, 1) := by decide +kernel
-- CableKeeper$Reader.fail(I)V over kx_reader
theorem q_Reader_fail_0 {w : ab_Wd} {d n nc ns : Nat} {I : Nat → Nat → Int32} {L : Nat → Nat → Int64} {res : ab_Re} (v1 : Int32) (hc : nc ≤ res.2.2.2.2.2.1) (hs : ns ≤ res.2.2.2.2.2.2)
    (h : ((¬ (I kx_reader 7) = 0 → (ab_E w d mt_Reader_fail 20 [.ref kx_reader, .int v1] [] (I, L, ab_RR, n, nc, ns) res)) ∧ ((I kx_reader 7) = 0 → (ab_E w d mt_Reader_fail 20 [.ref kx_reader, .int v1] [] ((ab_up (ab_up I kx_reader 7 v1) kx_reader 8 (I kx_reader 5)), L, ab_RR, n, nc, ns) res)))) : ab_E w d mt_Reader_fail 0 [.ref kx_reader, .int v1] [] (I, L, ab_RR, n, nc, ns) res := by
  refine ab_aload_n (i := 0) d_Reader_fail_0 rfl rfl ?_
  refine ab_getI (ci := 4) (k := 7) d_Reader_fail_1 v_774 rfl (by decide) (by decide) rfl ?_
  refine ab_if_ne (tgt := 20) d_Reader_fail_4 (by decide) (fun c1 => ?_) (fun c1 => ?_)
  · have h := h.1 c1
    exact h
  · have h := h.2 c1
    refine ab_aload_n (i := 0) d_Reader_fail_7 rfl rfl ?_
    refine ab_iload_n (i := 1) d_Reader_fail_8 rfl rfl ?_
    refine ab_putI (ci := 4) (k := 7) d_Reader_fail_9 v_774 rfl (by decide) (by decide) rfl (Or.inl rfl) rfl rfl ?_
    refine ab_aload_n (i := 0) d_Reader_fail_12 rfl rfl ?_
    refine ab_aload_n (i := 0) d_Reader_fail_13 rfl rfl ?_
    refine ab_getI (ci := 4) (k := 5) d_Reader_fail_14 v_772 rfl (by decide) (by decide) rfl ?_
    refine ab_putI (ci := 4) (k := 8) d_Reader_fail_17 v_775 rfl (by decide) (by decide) rfl (Or.inl rfl) rfl rfl ?_
    exact h
theorem q_Reader_fail_20 {w : ab_Wd} {d n nc ns : Nat} {I : Nat → Nat → Int32} {L : Nat → Nat → Int64} {res : ab_Re} (v1 : Int32) (hc : nc ≤ res.2.2.2.2.2.1) (hs : ns ≤ res.2.2.2.2.2.2)
    (h : res = (.inl none, (I, L, ab_RR, n, nc, ns))) : ab_E w d mt_Reader_fail 20 [.ref kx_reader, .int v1] [] (I, L, ab_RR, n, nc, ns) res := by
  exact ab_vret d_Reader_fail_20 rfl h
theorem d_Reader_isWord_0 : decode (ab_bc mt_Reader_isWord) 0 = .ok (.aload_n 0, 1) := by decide +kernel
theorem d_Reader_isWord_1 : decode (ab_bc mt_Reader_isWord) 1 = .ok (.getfield 15, 3) := by decide +kernel
theorem d_Reader_isWord_4 : decode (ab_bc mt_Reader_isWord) 4 = .ok (.iconst 1, 1) := by decide +kernel
theorem d_Reader_isWord_5 : decode (ab_bc mt_Reader_isWord) 5 = .ok (.if_icmp .ne 19, 3) := by decide +kernel
theorem d_Reader_isWord_8 : decode (ab_bc mt_Reader_isWord) 8 = .ok (.aload_n 0, 1) := by decide +kernel
theorem d_Reader_isWord_9 : decode (ab_bc mt_Reader_isWord) 9 = .ok (.getfield 9, 3) := by decide +kernel
theorem d_Reader_isWord_12 : decode (ab_bc mt_Reader_isWord) 12 = .ok (.aload_n 0, 1) := by decide +kernel
theorem d_Reader_isWord_13 : decode (ab_bc mt_Reader_isWord) 13 = .ok (.getfield 18, 3) := by decide +kernel
theorem d_Reader_isWord_16 : decode (ab_bc mt_Reader_isWord) 16 = .ok (.isub, 1) := by decide +kernel
theorem d_Reader_isWord_17 : decode (ab_bc mt_Reader_isWord) 17 = .ok (.aload_n 1, 1) := by decide +kernel
theorem d_Reader_isWord_18 : decode (ab_bc mt_Reader_isWord) 18 = .ok (.invokevirtual 115, 3) := by decide +kernel
theorem d_Reader_isWord_21 : decode (ab_bc mt_Reader_isWord) 21 = .ok (.if_icmp .eq 5, 3) := by decide +kernel
theorem d_Reader_isWord_24 : decode (ab_bc mt_Reader_isWord) 24 = .ok (.iconst 0, 1) := by decide +kernel
theorem d_Reader_isWord_25 : decode (ab_bc mt_Reader_isWord) 25 = .ok (.ireturn, 1) := by decide +kernel
theorem d_Reader_isWord_26 : decode (ab_bc mt_Reader_isWord) 26 = .ok (.iconst 0, 1) := by decide +kernel
theorem d_Reader_isWord_27 : decode (ab_bc mt_Reader_isWord) 27 = .ok (.istore_n 2, 1) := by decide +kernel
theorem d_Reader_isWord_28 : decode (ab_bc mt_Reader_isWord) 28 = .ok (.iload_n 2, 1) := by decide +kernel
theorem d_Reader_isWord_29 : decode (ab_bc mt_Reader_isWord) 29 = .ok (.aload_n 1, 1) := by decide +kernel
theorem d_Reader_isWord_30 : decode (ab_bc mt_Reader_isWord) 30 = .ok (.invokevirtual 115, 3) := by decide +kernel
theorem d_Reader_isWord_33 : decode (ab_bc mt_Reader_isWord) 33 = .ok (.if_icmp .ge 30, 3) := by decide +kernel
theorem d_Reader_isWord_36 : decode (ab_bc mt_Reader_isWord) 36 = .ok (.aload_n 0, 1) := by decide +kernel
theorem d_Reader_isWord_37 : decode (ab_bc mt_Reader_isWord) 37 = .ok (.getfield 30, 3) := by decide +kernel
theorem d_Reader_isWord_40 : decode (ab_bc mt_Reader_isWord) 40 = .ok (.aload_n 0, 1) := by decide +kernel
theorem d_Reader_isWord_41 : decode (ab_bc mt_Reader_isWord) 41 = .ok (.getfield 18, 3) := by decide +kernel
theorem d_Reader_isWord_44 : decode (ab_bc mt_Reader_isWord) 44 = .ok (.iload_n 2, 1) := by decide +kernel
theorem d_Reader_isWord_45 : decode (ab_bc mt_Reader_isWord) 45 = .ok (.iadd, 1) := by decide +kernel
theorem d_Reader_isWord_46 : decode (ab_bc mt_Reader_isWord) 46 = .ok (.baload, 1) := by decide +kernel
theorem d_Reader_isWord_47 : decode (ab_bc mt_Reader_isWord) 47 = .ok (.aload_n 1, 1) := by decide +kernel
theorem d_Reader_isWord_48 : decode (ab_bc mt_Reader_isWord) 48 = .ok (.iload_n 2, 1) := by decide +kernel
theorem d_Reader_isWord_49 : decode (ab_bc mt_Reader_isWord) 49 = .ok (.invokevirtual 119, 3) := by decide +kernel
theorem d_Reader_isWord_52 : decode (ab_bc mt_Reader_isWord) 52 = .ok (.if_icmp .eq 5, 3) := by decide +kernel
theorem d_Reader_isWord_55 : decode (ab_bc mt_Reader_isWord) 55 = .ok (.iconst 0, 1) := by decide +kernel
theorem d_Reader_isWord_56 : decode (ab_bc mt_Reader_isWord) 56 = .ok (.ireturn, 1) := by decide +kernel
theorem d_Reader_isWord_57 : decode (ab_bc mt_Reader_isWord) 57 = .ok (.iinc 2 1, 3) := by decide +kernel
theorem d_Reader_isWord_60 : decode (ab_bc mt_Reader_isWord) 60 = .ok (.goto (-32), 3) := by decide +kernel
theorem d_Reader_isWord_63 : decode (ab_bc mt_Reader_isWord) 63 = .ok (.iconst 1, 1) := by decide +kernel
theorem d_Reader_isWord_64 : decode (ab_bc mt_Reader_isWord) 64 = .ok (.ireturn, 1) := by decide +kernel
-- CableKeeper$Reader.isWord(Ljava/lang/String;)Z over kx_reader, S:j
theorem q_Reader_isWord_0 {w : ab_Wd} {d n nc ns : Nat} {I : Nat → Nat → Int32} {L : Nat → Nat → Int64} {res : ab_Re} {j : Nat} (hj : j < 8) (hc : nc ≤ res.2.2.2.2.2.1) (hs : ns ≤ res.2.2.2.2.2.2)
    (h : ((¬ (I kx_reader 4) = 1 → (ab_E w (d + 1) mt_Reader_isWord 24 [.ref kx_reader, .ref (64 * j + 32), .null] [] (I, L, ab_RR, n, nc, ns) res)) ∧ ((I kx_reader 4) = 1 → (∃ (r2 : Int32), ab_C w d mt_Str_length [.ref (64 * j + 32)] (I, L, ab_RR, n, nc, ns) (.inl (some (.int r2)), (I, L, ab_RR, n, nc, ns)) ∧ ((((I kx_reader 3) - (I kx_reader 5)) = r2 → (ab_E w (d + 1) mt_Reader_isWord 28 [.ref kx_reader, .ref (64 * j + 32), .int 0] [] (I, L, ab_RR, n, nc, ns) res)) ∧ (¬ ((I kx_reader 3) - (I kx_reader 5)) = r2 → (ab_E w (d + 1) mt_Reader_isWord 24 [.ref kx_reader, .ref (64 * j + 32), .null] [] (I, L, ab_RR, n, nc, ns) res))))))) : ab_E w (d + 1) mt_Reader_isWord 0 [.ref kx_reader, .ref (64 * j + 32), .null] [] (I, L, ab_RR, n, nc, ns) res := by
  refine ab_aload_n (i := 0) d_Reader_isWord_0 rfl rfl ?_
  refine ab_getI (ci := 4) (k := 4) d_Reader_isWord_1 v_771 rfl (by decide) (by decide) rfl ?_
  refine ab_iconst (v := 1) d_Reader_isWord_4 rfl ?_
  refine ab_icmp_ne (tgt := 24) d_Reader_isWord_5 (by decide) (fun c1 => ?_) (fun c1 => ?_)
  · have h := h.1 c1
    exact h
  · have h := h.2 c1
    refine ab_aload_n (i := 0) d_Reader_isWord_8 rfl rfl ?_
    refine ab_getI (ci := 4) (k := 3) d_Reader_isWord_9 v_770 rfl (by decide) (by decide) rfl ?_
    refine ab_aload_n (i := 0) d_Reader_isWord_12 rfl rfl ?_
    refine ab_getI (ci := 4) (k := 5) d_Reader_isWord_13 v_772 rfl (by decide) (by decide) rfl ?_
    refine ab_isub d_Reader_isWord_16 ?_
    refine ab_aload_n (i := 1) d_Reader_isWord_17 rfl rfl ?_
    obtain ⟨r2, hC, h⟩ := h
    refine ab_callT (me2 := mt_Str_length) (j := j) (as := []) (st := [.int ((I kx_reader 3) - (I kx_reader 5))]) (rv := (some (.int r2))) (M2 := (I, L, ab_RR, n, nc, ns)) d_Reader_isWord_18 hj ce_Str_length v_833 v_834 v_835 rfl (Nat.le_of_ble_eq_true rfl) hC (Nat.le_refl _) (Nat.le_refl _) hc hs (fun j h9 => by cases h9) (fun _ _ => rfl) ?_
    show ab_E w (d + 1) mt_Reader_isWord 21 [.ref kx_reader, .ref (64 * j + 32), .null] [.int r2, .int ((I kx_reader 3) - (I kx_reader 5))] (I, L, ab_RR, n, nc, ns) res
    refine ab_icmp_eq (tgt := 26) d_Reader_isWord_21 (by decide) (fun c3 => ?_) (fun c3 => ?_)
    · have h := h.1 c3
      refine ab_iconst (v := 0) d_Reader_isWord_26 rfl ?_
      refine ab_istore_n (i := 2) d_Reader_isWord_27 rfl (by decide) (Or.inr rfl) ?_
      exact h
    · have h := h.2 c3
      exact h
theorem q_Reader_isWord_24 {w : ab_Wd} {d n nc ns : Nat} {I : Nat → Nat → Int32} {L : Nat → Nat → Int64} {res : ab_Re} {j : Nat} (hj : j < 8) (hc : nc ≤ res.2.2.2.2.2.1) (hs : ns ≤ res.2.2.2.2.2.2)
    (h : res = (.inl (some (.int 0)), (I, L, ab_RR, n, nc, ns))) : ab_E w (d + 1) mt_Reader_isWord 24 [.ref kx_reader, .ref (64 * j + 32), .null] [] (I, L, ab_RR, n, nc, ns) res := by
  refine ab_iconst (v := 0) d_Reader_isWord_24 rfl ?_
  exact ab_iret (ty := .boolean) d_Reader_isWord_25 rfl rfl h
theorem q_Reader_isWord_28 {w : ab_Wd} {d n nc ns : Nat} {I : Nat → Nat → Int32} {L : Nat → Nat → Int64} {res : ab_Re} {j : Nat} (hj : j < 8) (v2 : Int32) (hc : nc ≤ res.2.2.2.2.2.1) (hs : ns ≤ res.2.2.2.2.2.2)
    (h : ∃ (r1 : Int32), ab_C w d mt_Str_length [.ref (64 * j + 32)] (I, L, ab_RR, n, nc, ns) (.inl (some (.int r1)), (I, L, ab_RR, n, nc, ns)) ∧ ((r1 ≤ v2 → (res = (.inl (some (.int 1)), (I, L, ab_RR, n, nc, ns)))) ∧ (¬ r1 ≤ v2 → ((vp_in ((I kx_reader 5) + v2) 700) ∧ ∃ (r4 : Int32), ab_C w d mt_Str_charAt [.ref (64 * j + 32), .int v2] (I, L, ab_RR, n, nc, ns) (.inl (some (.int r4)), (I, L, ab_RR, n, nc, ns)) ∧ (((I kx_tape ((I kx_reader 5) + v2).toNatClampNeg) = r4 → (ab_E w (d + 1) mt_Reader_isWord 28 [.ref kx_reader, .ref (64 * j + 32), .int (v2 + 1)] [] (I, L, ab_RR, n, nc, ns) res)) ∧ (¬ (I kx_tape ((I kx_reader 5) + v2).toNatClampNeg) = r4 → (res = (.inl (some (.int 0)), (I, L, ab_RR, n, nc, ns))))))))) : ab_E w (d + 1) mt_Reader_isWord 28 [.ref kx_reader, .ref (64 * j + 32), .int v2] [] (I, L, ab_RR, n, nc, ns) res := by
  refine ab_iload_n (i := 2) d_Reader_isWord_28 rfl rfl ?_
  refine ab_aload_n (i := 1) d_Reader_isWord_29 rfl rfl ?_
  obtain ⟨r1, hC, h⟩ := h
  refine ab_callT (me2 := mt_Str_length) (j := j) (as := []) (st := [.int v2]) (rv := (some (.int r1))) (M2 := (I, L, ab_RR, n, nc, ns)) d_Reader_isWord_30 hj ce_Str_length v_833 v_834 v_835 rfl (Nat.le_of_ble_eq_true rfl) hC (Nat.le_refl _) (Nat.le_refl _) hc hs (fun j h9 => by cases h9) (fun _ _ => rfl) ?_
  show ab_E w (d + 1) mt_Reader_isWord 33 [.ref kx_reader, .ref (64 * j + 32), .int v2] [.int r1, .int v2] (I, L, ab_RR, n, nc, ns) res
  refine ab_icmp_ge (tgt := 63) d_Reader_isWord_33 (by decide) (fun c2 => ?_) (fun c2 => ?_)
  · have h := h.1 c2
    refine ab_iconst (v := 1) d_Reader_isWord_63 rfl ?_
    exact ab_iret (ty := .boolean) d_Reader_isWord_64 rfl rfl h
  · have h := h.2 c2
    refine ab_aload_n (i := 0) d_Reader_isWord_36 rfl rfl ?_
    refine ab_getR (ci := 4) (k := 0) (j := kx_tape) d_Reader_isWord_37 v_767 rfl (by decide) (by decide) rfl r_kx_reader_0 ?_
    refine ab_aload_n (i := 0) d_Reader_isWord_40 rfl rfl ?_
    refine ab_getI (ci := 4) (k := 5) d_Reader_isWord_41 v_772 rfl (by decide) (by decide) rfl ?_
    refine ab_iload_n (i := 2) d_Reader_isWord_44 rfl rfl ?_
    refine ab_iadd d_Reader_isWord_45 ?_
    have g3 := h.1; have h := h.2
    refine ab_bald d_Reader_isWord_46 rfl rfl g3 ?_
    refine ab_aload_n (i := 1) d_Reader_isWord_47 rfl rfl ?_
    refine ab_iload_n (i := 2) d_Reader_isWord_48 rfl rfl ?_
    obtain ⟨r4, hC, h⟩ := h
    refine ab_callT (me2 := mt_Str_charAt) (j := j) (as := [.int v2]) (st := [.int (I kx_tape ((I kx_reader 5) + v2).toNatClampNeg)]) (rv := (some (.int r4))) (M2 := (I, L, ab_RR, n, nc, ns)) d_Reader_isWord_49 hj ce_Str_charAt v_843 v_844 v_845 rfl (Nat.le_of_ble_eq_true rfl) hC (Nat.le_refl _) (Nat.le_refl _) hc hs (fun j h9 => by cases h9) (fun _ _ => rfl) ?_
    show ab_E w (d + 1) mt_Reader_isWord 52 [.ref kx_reader, .ref (64 * j + 32), .int v2] [.int r4, .int (I kx_tape ((I kx_reader 5) + v2).toNatClampNeg)] (I, L, ab_RR, n, nc, ns) res
    refine ab_icmp_eq (tgt := 57) d_Reader_isWord_52 (by decide) (fun c5 => ?_) (fun c5 => ?_)
    · have h := h.1 c5
      refine ab_iinc (i := 2) (v := (v2 + 1)) d_Reader_isWord_57 rfl rfl (by decide) (Or.inr rfl) ?_
      refine ab_goto (tgt := 28) d_Reader_isWord_60 (by decide) ?_
      exact h
    · have h := h.2 c5
      refine ab_iconst (v := 0) d_Reader_isWord_55 rfl ?_
      exact ab_iret (ty := .boolean) d_Reader_isWord_56 rfl rfl h
