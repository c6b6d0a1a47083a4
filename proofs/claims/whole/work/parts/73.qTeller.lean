theorem d_Teller_tell_0 : decode (ab_bc mt_Teller_tell) 0 = .ok (.aload_n 0, 1) := by decide +kernel
theorem d_Teller_tell_1 : decode (ab_bc mt_Teller_tell) 1 = .ok (.iconst 0, 1) := by decide +kernel
theorem d_Teller_tell_2 : decode (ab_bc mt_Teller_tell) 2 = .ok (.putfield 15, 3) := by decide +kernel
theorem d_Teller_tell_5 : decode (ab_bc mt_Teller_tell) 5 = .ok (.aload_n 0, 1) := by decide +kernel
theorem d_Teller_tell_6 : decode (ab_bc mt_Teller_tell) 6 = .ok (.ldc 19, 2) := by decide +kernel
theorem d_Teller_tell_8 : decode (ab_bc mt_Teller_tell) 8 = .ok (.invokevirtual 21, 3) := by decide +kernel
theorem d_Teller_tell_11 : decode (ab_bc mt_Teller_tell) 11 = .ok (.aload_n 0, 1) := by decide +kernel
theorem d_Teller_tell_12 : decode (ab_bc mt_Teller_tell) 12 = .ok (.aload_n 1, 1) := by decide +kernel
theorem d_Teller_tell_13 : decode (ab_bc mt_Teller_tell) 13 = .ok (.getfield 25, 3) := by decide +kernel
theorem d_Teller_tell_16 : decode (ab_bc mt_Teller_tell) 16 = .ok (.invokevirtual 30, 3) := by decide +kernel
theorem d_Teller_tell_19 : decode (ab_bc mt_Teller_tell) 19 = .ok (.aload_n 0, 1) := by decide +kernel
theorem d_Teller_tell_20 : decode (ab_bc mt_Teller_tell) 20 = .ok (.ldc 33, 2) := by decide +kernel
theorem d_Teller_tell_22 : decode (ab_bc mt_Teller_tell) 22 = .ok (.invokevirtual 21, 3) := by decide +kernel
theorem d_Teller_tell_25 : decode (ab_bc mt_Teller_tell) 25 = .ok (.iconst 0, 1) := by decide +kernel
theorem d_Teller_tell_26 : decode (ab_bc mt_Teller_tell) 26 = .ok (.istore_n 2, 1) := by decide +kernel
theorem d_Teller_tell_27 : decode (ab_bc mt_Teller_tell) 27 = .ok (.iload_n 2, 1) := by decide +kernel
theorem d_Teller_tell_28 : decode (ab_bc mt_Teller_tell) 28 = .ok (.aload_n 1, 1) := by decide +kernel
theorem d_Teller_tell_29 : decode (ab_bc mt_Teller_tell) 29 = .ok (.getfield 35, 3) := by decide +kernel
theorem d_Teller_tell_32 : decode (ab_bc mt_Teller_tell) 32 = .ok (.if_icmp .ge 79, 3) := by decide +kernel
theorem d_Teller_tell_35 : decode (ab_bc mt_Teller_tell) 35 = .ok (.aload_n 0, 1) := by decide +kernel
theorem d_Teller_tell_36 : decode (ab_bc mt_Teller_tell) 36 = .ok (.ldc 38, 2) := by decide +kernel
theorem d_Teller_tell_38 : decode (ab_bc mt_Teller_tell) 38 = .ok (.invokevirtual 21, 3) := by decide +kernel
theorem d_Teller_tell_41 : decode (ab_bc mt_Teller_tell) 41 = .ok (.aload_n 0, 1) := by decide +kernel
theorem d_Teller_tell_42 : decode (ab_bc mt_Teller_tell) 42 = .ok (.aload_n 1, 1) := by decide +kernel
theorem d_Teller_tell_43 : decode (ab_bc mt_Teller_tell) 43 = .ok (.getfield 40, 3) := by decide +kernel
theorem d_Teller_tell_46 : decode (ab_bc mt_Teller_tell) 46 = .ok (.iload_n 2, 1) := by decide +kernel
theorem d_Teller_tell_47 : decode (ab_bc mt_Teller_tell) 47 = .ok (.iaload, 1) := by decide +kernel
theorem d_Teller_tell_48 : decode (ab_bc mt_Teller_tell) 48 = .ok (.invokevirtual 30, 3) := by decide +kernel
theorem d_Teller_tell_51 : decode (ab_bc mt_Teller_tell) 51 = .ok (.aload_n 0, 1) := by decide +kernel
theorem d_Teller_tell_52 : decode (ab_bc mt_Teller_tell) 52 = .ok (.ldc 44, 2) := by decide +kernel
theorem d_Teller_tell_54 : decode (ab_bc mt_Teller_tell) 54 = .ok (.invokevirtual 21, 3) := by decide +kernel
theorem d_Teller_tell_57 : decode (ab_bc mt_Teller_tell) 57 = .ok (.aload_n 0, 1) := by decide +kernel
theorem d_Teller_tell_58 : decode (ab_bc mt_Teller_tell) 58 = .ok (.aload_n 1, 1) := by decide +kernel
theorem d_Teller_tell_59 : decode (ab_bc mt_Teller_tell) 59 = .ok (.getfield 46, 3) := by decide +kernel
theorem d_Teller_tell_62 : decode (ab_bc mt_Teller_tell) 62 = .ok (.iload_n 2, 1) := by decide +kernel
theorem d_Teller_tell_63 : decode (ab_bc mt_Teller_tell) 63 = .ok (.iaload, 1) := by decide +kernel
theorem d_Teller_tell_64 : decode (ab_bc mt_Teller_tell) 64 = .ok (.invokevirtual 30, 3) := by decide +kernel
theorem d_Teller_tell_67 : decode (ab_bc mt_Teller_tell) 67 = .ok (.aload_n 0, 1) := by decide +kernel
theorem d_Teller_tell_68 : decode (ab_bc mt_Teller_tell) 68 = .ok (.ldc 44, 2) := by decide +kernel
theorem d_Teller_tell_70 : decode (ab_bc mt_Teller_tell) 70 = .ok (.invokevirtual 21, 3) := by decide +kernel
theorem d_Teller_tell_73 : decode (ab_bc mt_Teller_tell) 73 = .ok (.aload_n 0, 1) := by decide +kernel
theorem d_Teller_tell_74 : decode (ab_bc mt_Teller_tell) 74 = .ok (.aload_n 1, 1) := by decide +kernel
theorem d_Teller_tell_75 : decode (ab_bc mt_Teller_tell) 75 = .ok (.getfield 49, 3) := by decide +kernel
theorem d_Teller_tell_78 : decode (ab_bc mt_Teller_tell) 78 = .ok (.iload_n 2, 1) := by decide +kernel
theorem d_Teller_tell_79 : decode (ab_bc mt_Teller_tell) 79 = .ok (.iaload, 1) := by decide +kernel
theorem d_Teller_tell_80 : decode (ab_bc mt_Teller_tell) 80 = .ok (.invokevirtual 30, 3) := by decide +kernel
theorem d_Teller_tell_83 : decode (ab_bc mt_Teller_tell) 83 = .ok (.aload_n 0, 1) := by decide +kernel
theorem d_Teller_tell_84 : decode (ab_bc mt_Teller_tell) 84 = .ok (.ldc 44, 2) := by decide +kernel
theorem d_Teller_tell_86 : decode (ab_bc mt_Teller_tell) 86 = .ok (.invokevirtual 21, 3) := by decide +kernel
theorem d_Teller_tell_89 : decode (ab_bc mt_Teller_tell) 89 = .ok (.aload_n 0, 1) := by decide +kernel
theorem d_Teller_tell_90 : decode (ab_bc mt_Teller_tell) 90 = .ok (.aload_n 1, 1) := by decide +kernel
theorem d_Teller_tell_91 : decode (ab_bc mt_Teller_tell) 91 = .ok (.getfield 52, 3) := by decide +kernel
theorem d_Teller_tell_94 : decode (ab_bc mt_Teller_tell) 94 = .ok (.iload_n 2, 1) := by decide +kernel
theorem d_Teller_tell_95 : decode (ab_bc mt_Teller_tell) 95 = .ok (.iaload, 1) := by decide +kernel
theorem d_Teller_tell_96 : decode (ab_bc mt_Teller_tell) 96 = .ok (.invokevirtual 30, 3) := by decide +kernel
theorem d_Teller_tell_99 : decode (ab_bc mt_Teller_tell) 99 = .ok (.aload_n 0, 1) := by decide +kernel
theorem d_Teller_tell_100 : decode (ab_bc mt_Teller_tell) 100 = .ok (.ldc 33, 2) := by decide +kernel
theorem d_Teller_tell_102 : decode (ab_bc mt_Teller_tell) 102 = .ok (.invokevirtual 21, 3) := by decide +kernel
theorem d_Teller_tell_105 : decode (ab_bc mt_Teller_tell) 105 = .ok (.iinc 2 1, 3) := by decide +kernel
theorem d_Teller_tell_108 : decode (ab_bc mt_Teller_tell) 108 = .ok (.goto (-81), 3) := by decide +kernel
theorem d_Teller_tell_111 : decode (ab_bc mt_Teller_tell) 111 = .ok (.iconst 0, 1) := by decide +kernel
theorem d_Teller_tell_112 : decode (ab_bc mt_Teller_tell) 112 = .ok (.istore_n 2, 1) := by decide +kernel
theorem d_Teller_tell_113 : decode (ab_bc mt_Teller_tell) 113 = .ok (.iload_n 2, 1) := by decide +kernel
theorem d_Teller_tell_114 : decode (ab_bc mt_Teller_tell) 114 = .ok (.aload_n 1, 1) := by decide +kernel
theorem d_Teller_tell_115 : decode (ab_bc mt_Teller_tell) 115 = .ok (.getfield 35, 3) := by decide +kernel
theorem d_Teller_tell_118 : decode (ab_bc mt_Teller_tell) 118 = .ok (.if_icmp .ge 34, 3) := by decide +kernel
theorem d_Teller_tell_121 : decode (ab_bc mt_Teller_tell) 121 = .ok (.aload_n 1, 1) := by decide +kernel
theorem d_Teller_tell_122 : decode (ab_bc mt_Teller_tell) 122 = .ok (.iload_n 2, 1) := by decide +kernel
theorem d_Teller_tell_123 : decode (ab_bc mt_Teller_tell) 123 = .ok (.invokevirtual 55, 3) := by decide +kernel
theorem d_Teller_tell_126 : decode (ab_bc mt_Teller_tell) 126 = .ok (.ifCond .ne 20, 3) := by decide +kernel
theorem d_Teller_tell_129 : decode (ab_bc mt_Teller_tell) 129 = .ok (.aload_n 0, 1) := by decide +kernel
theorem d_Teller_tell_130 : decode (ab_bc mt_Teller_tell) 130 = .ok (.ldc 59, 2) := by decide +kernel
theorem d_Teller_tell_132 : decode (ab_bc mt_Teller_tell) 132 = .ok (.invokevirtual 21, 3) := by decide +kernel
theorem d_Teller_tell_135 : decode (ab_bc mt_Teller_tell) 135 = .ok (.aload_n 0, 1) := by decide +kernel
theorem d_Teller_tell_136 : decode (ab_bc mt_Teller_tell) 136 = .ok (.iload_n 2, 1) := by decide +kernel
theorem d_Teller_tell_137 : decode (ab_bc mt_Teller_tell) 137 = .ok (.invokevirtual 30, 3) := by decide +kernel
theorem d_Teller_tell_140 : decode (ab_bc mt_Teller_tell) 140 = .ok (.aload_n 0, 1) := by decide +kernel
theorem d_Teller_tell_141 : decode (ab_bc mt_Teller_tell) 141 = .ok (.ldc 33, 2) := by decide +kernel
theorem d_Teller_tell_143 : decode (ab_bc mt_Teller_tell) 143 = .ok (.invokevirtual 21, 3) := by decide +kernel
theorem d_Teller_tell_146 : decode (ab_bc mt_Teller_tell) 146 = .ok (.iinc 2 1, 3) := by decide +kernel
theorem d_Teller_tell_149 : decode (ab_bc mt_Teller_tell) 149 = .ok (.goto (-36), 3) := by decide +kernel
theorem d_Teller_tell_152 : decode (ab_bc mt_Teller_tell) 152 = .ok (.return_, 1) := by decide +kernel
-- CableKeeper$Teller.tell(LCableKeeper$Cables;)V over kx_teller, kx_now_cables
theorem q_Teller_tell_0 {w : ab_Wd} {d n nc ns : Nat} {I : Nat → Nat → Int32} {L : Nat → Nat → Int64} {res : ab_Re}  (hc : nc ≤ res.2.2.2.2.2.1) (hs : ns ≤ res.2.2.2.2.2.2)
    (h : ∃ (I2 : Nat → Nat → Int32), ab_C w d mt_Teller_put_S [.ref kx_teller, .ref 224] ((ab_up I kx_teller 1 0), L, ab_RR, n, nc, ns) (.inl none, (I2, L, ab_RR, n, nc, ns)) ∧ ∃ (I4 : Nat → Nat → Int32), ab_C w d mt_Teller_put_I [.ref kx_teller, .int (I2 kx_now_cables 0)] (I2, L, ab_RR, n, nc, ns) (.inl none, (I4, L, ab_RR, n, nc, ns)) ∧ ∃ (I6 : Nat → Nat → Int32), ab_C w d mt_Teller_put_S [.ref kx_teller, .ref 416] (I4, L, ab_RR, n, nc, ns) (.inl none, (I6, L, ab_RR, n, nc, ns)) ∧ ab_E w (d + 1) mt_Teller_tell 27 [.ref kx_teller, .ref kx_now_cables, .int 0] [] (I6, L, ab_RR, n, nc, ns) res) : ab_E w (d + 1) mt_Teller_tell 0 [.ref kx_teller, .ref kx_now_cables, .null] [] (I, L, ab_RR, n, nc, ns) res := by
  refine ab_aload_n (i := 0) d_Teller_tell_0 rfl rfl ?_
  refine ab_iconst (v := 0) d_Teller_tell_1 rfl ?_
  refine ab_putI (ci := 8) (k := 1) d_Teller_tell_2 v_429 rfl (by decide) (by decide) rfl (Or.inl rfl) rfl rfl ?_
  refine ab_aload_n (i := 0) d_Teller_tell_5 rfl rfl ?_
  refine ab_ldcS (j := 3) (tx := "sites ") d_Teller_tell_6 (by decide) (by decide +kernel) ?_
  obtain ⟨I2, hC, h⟩ := h
  refine ab_callV (me2 := mt_Teller_put_S) (b := kx_teller) (as := [.ref 224]) (st := []) (rv := none) (M2 := (I2, L, ab_RR, n, nc, ns)) d_Teller_tell_8 ce_Teller_put_S v_1224 v_1226 v_56 (by decide) rfl (Nat.le_of_ble_eq_true rfl) hC (Nat.le_refl _) (Nat.le_refl _) hc hs (fun j h9 => by cases h9) (fun _ _ => rfl) ?_
  show ab_E w (d + 1) mt_Teller_tell 11 [.ref kx_teller, .ref kx_now_cables, .null] [] (I2, L, ab_RR, n, nc, ns) res
  refine ab_aload_n (i := 0) d_Teller_tell_11 rfl rfl ?_
  refine ab_aload_n (i := 1) d_Teller_tell_12 rfl rfl ?_
  refine ab_getI (ci := 1) (k := 0) d_Teller_tell_13 v_186 rfl (by decide) (by decide) rfl ?_
  obtain ⟨I4, hC, h⟩ := h
  refine ab_callV (me2 := mt_Teller_put_I) (b := kx_teller) (as := [.int (I2 kx_now_cables 0)]) (st := []) (rv := none) (M2 := (I4, L, ab_RR, n, nc, ns)) d_Teller_tell_16 ce_Teller_put_I v_1234 v_1236 v_58 (by decide) rfl (Nat.le_of_ble_eq_true rfl) hC (Nat.le_refl _) (Nat.le_refl _) hc hs (fun j h9 => by cases h9) (fun _ _ => rfl) ?_
  show ab_E w (d + 1) mt_Teller_tell 19 [.ref kx_teller, .ref kx_now_cables, .null] [] (I4, L, ab_RR, n, nc, ns) res
  refine ab_aload_n (i := 0) d_Teller_tell_19 rfl rfl ?_
  refine ab_ldcS (j := 6) (tx := ";") d_Teller_tell_20 (by decide) (by decide +kernel) ?_
  obtain ⟨I6, hC, h⟩ := h
  refine ab_callV (me2 := mt_Teller_put_S) (b := kx_teller) (as := [.ref 416]) (st := []) (rv := none) (M2 := (I6, L, ab_RR, n, nc, ns)) d_Teller_tell_22 ce_Teller_put_S v_1224 v_1226 v_56 (by decide) rfl (Nat.le_of_ble_eq_true rfl) hC (Nat.le_refl _) (Nat.le_refl _) hc hs (fun j h9 => by cases h9) (fun _ _ => rfl) ?_
  show ab_E w (d + 1) mt_Teller_tell 25 [.ref kx_teller, .ref kx_now_cables, .null] [] (I6, L, ab_RR, n, nc, ns) res
  refine ab_iconst (v := 0) d_Teller_tell_25 rfl ?_
  refine ab_istore_n (i := 2) d_Teller_tell_26 rfl (by decide) (Or.inr rfl) ?_
  exact h
theorem q_Teller_tell_27 {w : ab_Wd} {d n nc ns : Nat} {I : Nat → Nat → Int32} {L : Nat → Nat → Int64} {res : ab_Re} (v2 : Int32) (hc : nc ≤ res.2.2.2.2.2.1) (hs : ns ≤ res.2.2.2.2.2.2)
    (h : (((I kx_now_cables 1) ≤ v2 → (ab_E w (d + 1) mt_Teller_tell 113 [.ref kx_teller, .ref kx_now_cables, .int 0] [] (I, L, ab_RR, n, nc, ns) res)) ∧ (¬ (I kx_now_cables 1) ≤ v2 → (∃ (I3 : Nat → Nat → Int32), ab_C w d mt_Teller_put_S [.ref kx_teller, .ref 288] (I, L, ab_RR, n, nc, ns) (.inl none, (I3, L, ab_RR, n, nc, ns)) ∧ (vp_in v2 24) ∧ ∃ (I6 : Nat → Nat → Int32), ab_C w d mt_Teller_put_I [.ref kx_teller, .int (I3 kx_now_cables_first v2.toNatClampNeg)] (I3, L, ab_RR, n, nc, ns) (.inl none, (I6, L, ab_RR, n, nc, ns)) ∧ ∃ (I8 : Nat → Nat → Int32), ab_C w d mt_Teller_put_S [.ref kx_teller, .ref 352] (I6, L, ab_RR, n, nc, ns) (.inl none, (I8, L, ab_RR, n, nc, ns)) ∧ ∃ (I10 : Nat → Nat → Int32), ab_C w d mt_Teller_put_I [.ref kx_teller, .int (I8 kx_now_cables_second v2.toNatClampNeg)] (I8, L, ab_RR, n, nc, ns) (.inl none, (I10, L, ab_RR, n, nc, ns)) ∧ ∃ (I12 : Nat → Nat → Int32), ab_C w d mt_Teller_put_S [.ref kx_teller, .ref 352] (I10, L, ab_RR, n, nc, ns) (.inl none, (I12, L, ab_RR, n, nc, ns)) ∧ ∃ (I14 : Nat → Nat → Int32), ab_C w d mt_Teller_put_I [.ref kx_teller, .int (I12 kx_now_cables_price v2.toNatClampNeg)] (I12, L, ab_RR, n, nc, ns) (.inl none, (I14, L, ab_RR, n, nc, ns)) ∧ ∃ (I16 : Nat → Nat → Int32), ab_C w d mt_Teller_put_S [.ref kx_teller, .ref 352] (I14, L, ab_RR, n, nc, ns) (.inl none, (I16, L, ab_RR, n, nc, ns)) ∧ ∃ (I18 : Nat → Nat → Int32), ab_C w d mt_Teller_put_I [.ref kx_teller, .int (I16 kx_now_cables_firm v2.toNatClampNeg)] (I16, L, ab_RR, n, nc, ns) (.inl none, (I18, L, ab_RR, n, nc, ns)) ∧ ∃ (I20 : Nat → Nat → Int32), ab_C w d mt_Teller_put_S [.ref kx_teller, .ref 416] (I18, L, ab_RR, n, nc, ns) (.inl none, (I20, L, ab_RR, n, nc, ns)) ∧ ab_E w (d + 1) mt_Teller_tell 27 [.ref kx_teller, .ref kx_now_cables, .int (v2 + 1)] [] (I20, L, ab_RR, n, nc, ns) res)))) : ab_E w (d + 1) mt_Teller_tell 27 [.ref kx_teller, .ref kx_now_cables, .int v2] [] (I, L, ab_RR, n, nc, ns) res := by
  refine ab_iload_n (i := 2) d_Teller_tell_27 rfl rfl ?_
  refine ab_aload_n (i := 1) d_Teller_tell_28 rfl rfl ?_
  refine ab_getI (ci := 1) (k := 1) d_Teller_tell_29 v_193 rfl (by decide) (by decide) rfl ?_
  refine ab_icmp_ge (tgt := 111) d_Teller_tell_32 (by decide) (fun c1 => ?_) (fun c1 => ?_)
  · have h := h.1 c1
    refine ab_iconst (v := 0) d_Teller_tell_111 rfl ?_
    refine ab_istore_n (i := 2) d_Teller_tell_112 rfl (by decide) (Or.inr rfl) ?_
    exact h
  · have h := h.2 c1
    refine ab_aload_n (i := 0) d_Teller_tell_35 rfl rfl ?_
    refine ab_ldcS (j := 4) (tx := "cable ") d_Teller_tell_36 (by decide) (by decide +kernel) ?_
    obtain ⟨I3, hC, h⟩ := h
    refine ab_callV (me2 := mt_Teller_put_S) (b := kx_teller) (as := [.ref 288]) (st := []) (rv := none) (M2 := (I3, L, ab_RR, n, nc, ns)) d_Teller_tell_38 ce_Teller_put_S v_1224 v_1226 v_56 (by decide) rfl (Nat.le_of_ble_eq_true rfl) hC (Nat.le_refl _) (Nat.le_refl _) hc hs (fun j h9 => by cases h9) (fun _ _ => rfl) ?_
    show ab_E w (d + 1) mt_Teller_tell 41 [.ref kx_teller, .ref kx_now_cables, .int v2] [] (I3, L, ab_RR, n, nc, ns) res
    refine ab_aload_n (i := 0) d_Teller_tell_41 rfl rfl ?_
    refine ab_aload_n (i := 1) d_Teller_tell_42 rfl rfl ?_
    refine ab_getR (ci := 1) (k := 3) (j := kx_now_cables_first) d_Teller_tell_43 v_205 rfl (by decide) (by decide) rfl r_kx_now_cables_3 ?_
    refine ab_iload_n (i := 2) d_Teller_tell_46 rfl rfl ?_
    have g4 := h.1; have h := h.2
    refine ab_iald d_Teller_tell_47 rfl rfl g4 ?_
    obtain ⟨I6, hC, h⟩ := h
    refine ab_callV (me2 := mt_Teller_put_I) (b := kx_teller) (as := [.int (I3 kx_now_cables_first v2.toNatClampNeg)]) (st := []) (rv := none) (M2 := (I6, L, ab_RR, n, nc, ns)) d_Teller_tell_48 ce_Teller_put_I v_1234 v_1236 v_58 (by decide) rfl (Nat.le_of_ble_eq_true rfl) hC (Nat.le_refl _) (Nat.le_refl _) hc hs (fun j h9 => by cases h9) (fun _ _ => rfl) ?_
    show ab_E w (d + 1) mt_Teller_tell 51 [.ref kx_teller, .ref kx_now_cables, .int v2] [] (I6, L, ab_RR, n, nc, ns) res
    refine ab_aload_n (i := 0) d_Teller_tell_51 rfl rfl ?_
    refine ab_ldcS (j := 5) (tx := " ") d_Teller_tell_52 (by decide) (by decide +kernel) ?_
    obtain ⟨I8, hC, h⟩ := h
    refine ab_callV (me2 := mt_Teller_put_S) (b := kx_teller) (as := [.ref 352]) (st := []) (rv := none) (M2 := (I8, L, ab_RR, n, nc, ns)) d_Teller_tell_54 ce_Teller_put_S v_1224 v_1226 v_56 (by decide) rfl (Nat.le_of_ble_eq_true rfl) hC (Nat.le_refl _) (Nat.le_refl _) hc hs (fun j h9 => by cases h9) (fun _ _ => rfl) ?_
    show ab_E w (d + 1) mt_Teller_tell 57 [.ref kx_teller, .ref kx_now_cables, .int v2] [] (I8, L, ab_RR, n, nc, ns) res
    refine ab_aload_n (i := 0) d_Teller_tell_57 rfl rfl ?_
    refine ab_aload_n (i := 1) d_Teller_tell_58 rfl rfl ?_
    refine ab_getR (ci := 1) (k := 4) (j := kx_now_cables_second) d_Teller_tell_59 v_212 rfl (by decide) (by decide) rfl r_kx_now_cables_4 ?_
    refine ab_iload_n (i := 2) d_Teller_tell_62 rfl rfl ?_
    refine ab_iald d_Teller_tell_63 rfl rfl g4 ?_
    obtain ⟨I10, hC, h⟩ := h
    refine ab_callV (me2 := mt_Teller_put_I) (b := kx_teller) (as := [.int (I8 kx_now_cables_second v2.toNatClampNeg)]) (st := []) (rv := none) (M2 := (I10, L, ab_RR, n, nc, ns)) d_Teller_tell_64 ce_Teller_put_I v_1234 v_1236 v_58 (by decide) rfl (Nat.le_of_ble_eq_true rfl) hC (Nat.le_refl _) (Nat.le_refl _) hc hs (fun j h9 => by cases h9) (fun _ _ => rfl) ?_
    show ab_E w (d + 1) mt_Teller_tell 67 [.ref kx_teller, .ref kx_now_cables, .int v2] [] (I10, L, ab_RR, n, nc, ns) res
    refine ab_aload_n (i := 0) d_Teller_tell_67 rfl rfl ?_
    refine ab_ldcS (j := 5) (tx := " ") d_Teller_tell_68 (by decide) (by decide +kernel) ?_
    obtain ⟨I12, hC, h⟩ := h
    refine ab_callV (me2 := mt_Teller_put_S) (b := kx_teller) (as := [.ref 352]) (st := []) (rv := none) (M2 := (I12, L, ab_RR, n, nc, ns)) d_Teller_tell_70 ce_Teller_put_S v_1224 v_1226 v_56 (by decide) rfl (Nat.le_of_ble_eq_true rfl) hC (Nat.le_refl _) (Nat.le_refl _) hc hs (fun j h9 => by cases h9) (fun _ _ => rfl) ?_
    show ab_E w (d + 1) mt_Teller_tell 73 [.ref kx_teller, .ref kx_now_cables, .int v2] [] (I12, L, ab_RR, n, nc, ns) res
    refine ab_aload_n (i := 0) d_Teller_tell_73 rfl rfl ?_
    refine ab_aload_n (i := 1) d_Teller_tell_74 rfl rfl ?_
    refine ab_getR (ci := 1) (k := 5) (j := kx_now_cables_price) d_Teller_tell_75 v_219 rfl (by decide) (by decide) rfl r_kx_now_cables_5 ?_
    refine ab_iload_n (i := 2) d_Teller_tell_78 rfl rfl ?_
    refine ab_iald d_Teller_tell_79 rfl rfl g4 ?_
    obtain ⟨I14, hC, h⟩ := h
    refine ab_callV (me2 := mt_Teller_put_I) (b := kx_teller) (as := [.int (I12 kx_now_cables_price v2.toNatClampNeg)]) (st := []) (rv := none) (M2 := (I14, L, ab_RR, n, nc, ns)) d_Teller_tell_80 ce_Teller_put_I v_1234 v_1236 v_58 (by decide) rfl (Nat.le_of_ble_eq_true rfl) hC (Nat.le_refl _) (Nat.le_refl _) hc hs (fun j h9 => by cases h9) (fun _ _ => rfl) ?_
    show ab_E w (d + 1) mt_Teller_tell 83 [.ref kx_teller, .ref kx_now_cables, .int v2] [] (I14, L, ab_RR, n, nc, ns) res
    refine ab_aload_n (i := 0) d_Teller_tell_83 rfl rfl ?_
    refine ab_ldcS (j := 5) (tx := " ") d_Teller_tell_84 (by decide) (by decide +kernel) ?_
    obtain ⟨I16, hC, h⟩ := h
    refine ab_callV (me2 := mt_Teller_put_S) (b := kx_teller) (as := [.ref 352]) (st := []) (rv := none) (M2 := (I16, L, ab_RR, n, nc, ns)) d_Teller_tell_86 ce_Teller_put_S v_1224 v_1226 v_56 (by decide) rfl (Nat.le_of_ble_eq_true rfl) hC (Nat.le_refl _) (Nat.le_refl _) hc hs (fun j h9 => by cases h9) (fun _ _ => rfl) ?_
    show ab_E w (d + 1) mt_Teller_tell 89 [.ref kx_teller, .ref kx_now_cables, .int v2] [] (I16, L, ab_RR, n, nc, ns) res
    refine ab_aload_n (i := 0) d_Teller_tell_89 rfl rfl ?_
    refine ab_aload_n (i := 1) d_Teller_tell_90 rfl rfl ?_
    refine ab_getR (ci := 1) (k := 6) (j := kx_now_cables_firm) d_Teller_tell_91 v_227 rfl (by decide) (by decide) rfl r_kx_now_cables_6 ?_
    refine ab_iload_n (i := 2) d_Teller_tell_94 rfl rfl ?_
    refine ab_iald d_Teller_tell_95 rfl rfl g4 ?_
    obtain ⟨I18, hC, h⟩ := h
    refine ab_callV (me2 := mt_Teller_put_I) (b := kx_teller) (as := [.int (I16 kx_now_cables_firm v2.toNatClampNeg)]) (st := []) (rv := none) (M2 := (I18, L, ab_RR, n, nc, ns)) d_Teller_tell_96 ce_Teller_put_I v_1234 v_1236 v_58 (by decide) rfl (Nat.le_of_ble_eq_true rfl) hC (Nat.le_refl _) (Nat.le_refl _) hc hs (fun j h9 => by cases h9) (fun _ _ => rfl) ?_
    show ab_E w (d + 1) mt_Teller_tell 99 [.ref kx_teller, .ref kx_now_cables, .int v2] [] (I18, L, ab_RR, n, nc, ns) res
    refine ab_aload_n (i := 0) d_Teller_tell_99 rfl rfl ?_
    refine ab_ldcS (j := 6) (tx := ";") d_Teller_tell_100 (by decide) (by decide +kernel) ?_
    obtain ⟨I20, hC, h⟩ := h
    refine ab_callV (me2 := mt_Teller_put_S) (b := kx_teller) (as := [.ref 416]) (st := []) (rv := none) (M2 := (I20, L, ab_RR, n, nc, ns)) d_Teller_tell_102 ce_Teller_put_S v_1224 v_1226 v_56 (by decide) rfl (Nat.le_of_ble_eq_true rfl) hC (Nat.le_refl _) (Nat.le_refl _) hc hs (fun j h9 => by cases h9) (fun _ _ => rfl) ?_
    show ab_E w (d + 1) mt_Teller_tell 105 [.ref kx_teller, .ref kx_now_cables, .int v2] [] (I20, L, ab_RR, n, nc, ns) res
    refine ab_iinc (i := 2) (v := (v2 + 1)) d_Teller_tell_105 rfl rfl (by decide) (Or.inr rfl) ?_
    refine ab_goto (tgt := 27) d_Teller_tell_108 (by decide) ?_
    exact h
theorem q_Teller_tell_113 {w : ab_Wd} {d n nc ns : Nat} {I : Nat → Nat → Int32} {L : Nat → Nat → Int64} {res : ab_Re} (v2 : Int32) (hc : nc ≤ res.2.2.2.2.2.1) (hs : ns ≤ res.2.2.2.2.2.2)
    (h : (((I kx_now_cables 1) ≤ v2 → (res = (.inl none, (I, L, ab_RR, n, nc, ns)))) ∧ (¬ (I kx_now_cables 1) ≤ v2 → (∃ (r2 : Int32), ab_C w d mt_Cables_isSound [.ref kx_now_cables, .int v2] (I, L, ab_RR, n, nc, ns) (.inl (some (.int r2)), (I, L, ab_RR, n, nc, ns)) ∧ ((¬ r2 = 0 → (ab_E w (d + 1) mt_Teller_tell 146 [.ref kx_teller, .ref kx_now_cables, .int v2] [] (I, L, ab_RR, n, nc, ns) res)) ∧ (r2 = 0 → (∃ (I5 : Nat → Nat → Int32), ab_C w d mt_Teller_put_S [.ref kx_teller, .ref 480] (I, L, ab_RR, n, nc, ns) (.inl none, (I5, L, ab_RR, n, nc, ns)) ∧ ∃ (I7 : Nat → Nat → Int32), ab_C w d mt_Teller_put_I [.ref kx_teller, .int v2] (I5, L, ab_RR, n, nc, ns) (.inl none, (I7, L, ab_RR, n, nc, ns)) ∧ ∃ (I9 : Nat → Nat → Int32), ab_C w d mt_Teller_put_S [.ref kx_teller, .ref 416] (I7, L, ab_RR, n, nc, ns) (.inl none, (I9, L, ab_RR, n, nc, ns)) ∧ ab_E w (d + 1) mt_Teller_tell 146 [.ref kx_teller, .ref kx_now_cables, .int v2] [] (I9, L, ab_RR, n, nc, ns) res))))))) : ab_E w (d + 1) mt_Teller_tell 113 [.ref kx_teller, .ref kx_now_cables, .int v2] [] (I, L, ab_RR, n, nc, ns) res := by
  refine ab_iload_n (i := 2) d_Teller_tell_113 rfl rfl ?_
  refine ab_aload_n (i := 1) d_Teller_tell_114 rfl rfl ?_
  refine ab_getI (ci := 1) (k := 1) d_Teller_tell_115 v_193 rfl (by decide) (by decide) rfl ?_
  refine ab_icmp_ge (tgt := 152) d_Teller_tell_118 (by decide) (fun c1 => ?_) (fun c1 => ?_)
  · have h := h.1 c1
    exact ab_vret d_Teller_tell_152 rfl h
  · have h := h.2 c1
    refine ab_aload_n (i := 1) d_Teller_tell_121 rfl rfl ?_
    refine ab_iload_n (i := 2) d_Teller_tell_122 rfl rfl ?_
    obtain ⟨r2, hC, h⟩ := h
    refine ab_callV (me2 := mt_Cables_isSound) (b := kx_now_cables) (as := [.int v2]) (st := []) (rv := (some (.int r2))) (M2 := (I, L, ab_RR, n, nc, ns)) d_Teller_tell_123 ce_Cables_isSound v_1241 v_540 v_541 (by decide) rfl (Nat.le_of_ble_eq_true rfl) hC (Nat.le_refl _) (Nat.le_refl _) hc hs (fun j h9 => by cases h9) (fun _ _ => rfl) ?_
    show ab_E w (d + 1) mt_Teller_tell 126 [.ref kx_teller, .ref kx_now_cables, .int v2] [.int r2] (I, L, ab_RR, n, nc, ns) res
    refine ab_if_ne (tgt := 146) d_Teller_tell_126 (by decide) (fun c3 => ?_) (fun c3 => ?_)
    · have h := h.1 c3
      exact h
    · have h := h.2 c3
      refine ab_aload_n (i := 0) d_Teller_tell_129 rfl rfl ?_
      refine ab_ldcS (j := 7) (tx := "broken ") d_Teller_tell_130 (by decide) (by decide +kernel) ?_
      obtain ⟨I5, hC, h⟩ := h
      refine ab_callV (me2 := mt_Teller_put_S) (b := kx_teller) (as := [.ref 480]) (st := []) (rv := none) (M2 := (I5, L, ab_RR, n, nc, ns)) d_Teller_tell_132 ce_Teller_put_S v_1224 v_1226 v_56 (by decide) rfl (Nat.le_of_ble_eq_true rfl) hC (Nat.le_refl _) (Nat.le_refl _) hc hs (fun j h9 => by cases h9) (fun _ _ => rfl) ?_
      show ab_E w (d + 1) mt_Teller_tell 135 [.ref kx_teller, .ref kx_now_cables, .int v2] [] (I5, L, ab_RR, n, nc, ns) res
      refine ab_aload_n (i := 0) d_Teller_tell_135 rfl rfl ?_
      refine ab_iload_n (i := 2) d_Teller_tell_136 rfl rfl ?_
      obtain ⟨I7, hC, h⟩ := h
      refine ab_callV (me2 := mt_Teller_put_I) (b := kx_teller) (as := [.int v2]) (st := []) (rv := none) (M2 := (I7, L, ab_RR, n, nc, ns)) d_Teller_tell_137 ce_Teller_put_I v_1234 v_1236 v_58 (by decide) rfl (Nat.le_of_ble_eq_true rfl) hC (Nat.le_refl _) (Nat.le_refl _) hc hs (fun j h9 => by cases h9) (fun _ _ => rfl) ?_
      show ab_E w (d + 1) mt_Teller_tell 140 [.ref kx_teller, .ref kx_now_cables, .int v2] [] (I7, L, ab_RR, n, nc, ns) res
      refine ab_aload_n (i := 0) d_Teller_tell_140 rfl rfl ?_
      refine ab_ldcS (j := 6) (tx := ";") d_Teller_tell_141 (by decide) (by decide +kernel) ?_
      obtain ⟨I9, hC, h⟩ := h
      refine ab_callV (me2 := mt_Teller_put_S) (b := kx_teller) (as := [.ref 416]) (st := []) (rv := none) (M2 := (I9, L, ab_RR, n, nc, ns)) d_Teller_tell_143 ce_Teller_put_S v_1224 v_1226 v_56 (by decide) rfl (Nat.le_of_ble_eq_true rfl) hC (Nat.le_refl _) (Nat.le_refl _) hc hs (fun j h9 => by cases h9) (fun _ _ => rfl) ?_
      show ab_E w (d + 1) mt_Teller_tell 146 [.ref kx_teller, .ref kx_now_cables, .int v2] [] (I9, L, ab_RR, n, nc, ns) res
      exact h
theorem q_Teller_tell_146 {w : ab_Wd} {d n nc ns : Nat} {I : Nat → Nat → Int32} {L : Nat → Nat → Int64} {res : ab_Re} (v2 : Int32) (hc : nc ≤ res.2.2.2.2.2.1) (hs : ns ≤ res.2.2.2.2.2.2)
    (h : ab_E w (d + 1) mt_Teller_tell 113 [.ref kx_teller, .ref kx_now_cables, .int (v2 + 1)] [] (I, L, ab_RR, n, nc, ns) res) : ab_E w (d + 1) mt_Teller_tell 146 [.ref kx_teller, .ref kx_now_cables, .int v2] [] (I, L, ab_RR, n, nc, ns) res := by
  refine ab_iinc (i := 2) (v := (v2 + 1)) d_Teller_tell_146 rfl rfl (by decide) (Or.inr rfl) ?_
  refine ab_goto (tgt := 113) d_Teller_tell_149 (by decide) ?_
  exact h
theorem d_Teller_put_I_0 : decode (ab_bc mt_Teller_put_I) 0 = .ok (.iload_n 1, 1) := by decide +kernel
theorem d_Teller_put_I_1 : decode (ab_bc mt_Teller_put_I) 1 = .ok (.bipush 99, 2) := by decide +kernel
theorem d_Teller_put_I_3 : decode (ab_bc mt_Teller_put_I) 3 = .ok (.if_icmp .le 14, 3) := by decide +kernel
theorem d_Teller_put_I_6 : decode (ab_bc mt_Teller_put_I) 6 = .ok (.aload_n 0, 1) := by decide +kernel
theorem d_Teller_put_I_7 : decode (ab_bc mt_Teller_put_I) 7 = .ok (.bipush 48, 2) := by decide +kernel
theorem d_Teller_put_I_9 : decode (ab_bc mt_Teller_put_I) 9 = .ok (.iload_n 1, 1) := by decide +kernel
theorem d_Teller_put_I_10 : decode (ab_bc mt_Teller_put_I) 10 = .ok (.bipush 100, 2) := by decide +kernel
theorem d_Teller_put_I_12 : decode (ab_bc mt_Teller_put_I) 12 = .ok (.idiv, 1) := by decide +kernel
theorem d_Teller_put_I_13 : decode (ab_bc mt_Teller_put_I) 13 = .ok (.iadd, 1) := by decide +kernel
theorem d_Teller_put_I_14 : decode (ab_bc mt_Teller_put_I) 14 = .ok (.invokevirtual 70, 3) := by decide +kernel
theorem d_Teller_put_I_17 : decode (ab_bc mt_Teller_put_I) 17 = .ok (.iload_n 1, 1) := by decide +kernel
theorem d_Teller_put_I_18 : decode (ab_bc mt_Teller_put_I) 18 = .ok (.bipush 9, 2) := by decide +kernel
theorem d_Teller_put_I_20 : decode (ab_bc mt_Teller_put_I) 20 = .ok (.if_icmp .le 17, 3) := by decide +kernel
theorem d_Teller_put_I_23 : decode (ab_bc mt_Teller_put_I) 23 = .ok (.aload_n 0, 1) := by decide +kernel
theorem d_Teller_put_I_24 : decode (ab_bc mt_Teller_put_I) 24 = .ok (.bipush 48, 2) := by decide +kernel
theorem d_Teller_put_I_26 : decode (ab_bc mt_Teller_put_I) 26 = .ok (.iload_n 1, 1) := by decide +kernel
theorem d_Teller_put_I_27 : decode (ab_bc mt_Teller_put_I) 27 = .ok (.bipush 10, 2) := by decide +kernel
theorem d_Teller_put_I_29 : decode (ab_bc mt_Teller_put_I) 29 = .ok (.idiv, 1) := by decide +kernel
theorem d_Teller_put_I_30 : decode (ab_bc mt_Teller_put_I) 30 = .ok (.bipush 10, 2) := by decide +kernel
theorem d_Teller_put_I_32 : decode (ab_bc mt_Teller_put_I) 32 = .ok (.irem, 1) := by decide +kernel
theorem d_Teller_put_I_33 : decode (ab_bc mt_Teller_put_I) 33 = .ok (.iadd, 1) := by decide +kernel
theorem d_Teller_put_I_34 : decode (ab_bc mt_Teller_put_I) 34 = .ok (.invokevirtual 70, 3) := by decide +kernel
theorem d_Teller_put_I_37 : decode (ab_bc mt_Teller_put_I) 37 = .ok (.aload_n 0, 1) := by decide +kernel
theorem d_Teller_put_I_38 : decode (ab_bc mt_Teller_put_I) 38 = .ok (.bipush 48, 2) := by decide +kernel
theorem d_Teller_put_I_40 : decode (ab_bc mt_Teller_put_I) 40 = .ok (.iload_n 1, 1) := by decide +kernel
theorem d_Teller_put_I_41 : decode (ab_bc mt_Teller_put_I) 41 = .ok (.bipush 10, 2) := by decide +kernel
theorem d_Teller_put_I_43 : decode (ab_bc mt_Teller_put_I) 43 = .ok (.irem, 1) := by decide +kernel
theorem d_Teller_put_I_44 : decode (ab_bc mt_Teller_put_I) 44 = .ok (.iadd, 1) := by decide +kernel
theorem d_Teller_put_I_45 : decode (ab_bc mt_Teller_put_I) 45 = .ok (.invokevirtual 70, 3) := by decide +kernel
theorem d_Teller_put_I_48 : decode (ab_bc mt_Teller_put_I) 48 = .ok (.return_, 1) := by decide +kernel
-- CableKeeper$Teller.put(I)V over kx_teller
theorem q_Teller_put_I_0 {w : ab_Wd} {d n nc ns : Nat} {I : Nat → Nat → Int32} {L : Nat → Nat → Int64} {res : ab_Re} (v1 : Int32) (hc : nc ≤ res.2.2.2.2.2.1) (hs : ns ≤ res.2.2.2.2.2.2)
    (h : ((v1 ≤ 99 → (ab_E w (d + 1) mt_Teller_put_I 17 [.ref kx_teller, .int v1] [] (I, L, ab_RR, n, nc, ns) res)) ∧ (¬ v1 ≤ 99 → (∃ (I3 : Nat → Nat → Int32), ab_C w d mt_Teller_putSign [.ref kx_teller, .int (48 + (v1 / 100))] (I, L, ab_RR, n, nc, ns) (.inl none, (I3, L, ab_RR, n, nc, ns)) ∧ ab_E w (d + 1) mt_Teller_put_I 17 [.ref kx_teller, .int v1] [] (I3, L, ab_RR, n, nc, ns) res)))) : ab_E w (d + 1) mt_Teller_put_I 0 [.ref kx_teller, .int v1] [] (I, L, ab_RR, n, nc, ns) res := by
  refine ab_iload_n (i := 1) d_Teller_put_I_0 rfl rfl ?_
  refine ab_bipush (v := 99) d_Teller_put_I_1 rfl ?_
  refine ab_icmp_le (tgt := 17) d_Teller_put_I_3 (by decide) (fun c1 => ?_) (fun c1 => ?_)
  · have h := h.1 c1
    exact h
  · have h := h.2 c1
    refine ab_aload_n (i := 0) d_Teller_put_I_6 rfl rfl ?_
    refine ab_bipush (v := 48) d_Teller_put_I_7 rfl ?_
    refine ab_iload_n (i := 1) d_Teller_put_I_9 rfl rfl ?_
    refine ab_bipush (v := 100) d_Teller_put_I_10 rfl ?_
    refine ab_idiv d_Teller_put_I_12 (by decide) ?_
    refine ab_iadd d_Teller_put_I_13 ?_
    obtain ⟨I3, hC, h⟩ := h
    refine ab_callV (me2 := mt_Teller_putSign) (b := kx_teller) (as := [.int (48 + (v1 / 100))]) (st := []) (rv := none) (M2 := (I3, L, ab_RR, n, nc, ns)) d_Teller_put_I_14 ce_Teller_putSign v_1230 v_1232 v_57 (by decide) rfl (Nat.le_of_ble_eq_true rfl) hC (Nat.le_refl _) (Nat.le_refl _) hc hs (fun j h9 => by cases h9) (fun _ _ => rfl) ?_
    show ab_E w (d + 1) mt_Teller_put_I 17 [.ref kx_teller, .int v1] [] (I3, L, ab_RR, n, nc, ns) res
    exact h
theorem q_Teller_put_I_17 {w : ab_Wd} {d n nc ns : Nat} {I : Nat → Nat → Int32} {L : Nat → Nat → Int64} {res : ab_Re} (v1 : Int32) (hc : nc ≤ res.2.2.2.2.2.1) (hs : ns ≤ res.2.2.2.2.2.2)
    (h : ((v1 ≤ 9 → (ab_E w (d + 1) mt_Teller_put_I 37 [.ref kx_teller, .int v1] [] (I, L, ab_RR, n, nc, ns) res)) ∧ (¬ v1 ≤ 9 → (∃ (I3 : Nat → Nat → Int32), ab_C w d mt_Teller_putSign [.ref kx_teller, .int (48 + ((v1 / 10) - (v1 / 10) / 10 * 10))] (I, L, ab_RR, n, nc, ns) (.inl none, (I3, L, ab_RR, n, nc, ns)) ∧ ab_E w (d + 1) mt_Teller_put_I 37 [.ref kx_teller, .int v1] [] (I3, L, ab_RR, n, nc, ns) res)))) : ab_E w (d + 1) mt_Teller_put_I 17 [.ref kx_teller, .int v1] [] (I, L, ab_RR, n, nc, ns) res := by
  refine ab_iload_n (i := 1) d_Teller_put_I_17 rfl rfl ?_
  refine ab_bipush (v := 9) d_Teller_put_I_18 rfl ?_
  refine ab_icmp_le (tgt := 37) d_Teller_put_I_20 (by decide) (fun c1 => ?_) (fun c1 => ?_)
  · have h := h.1 c1
    exact h
  · have h := h.2 c1
    refine ab_aload_n (i := 0) d_Teller_put_I_23 rfl rfl ?_
    refine ab_bipush (v := 48) d_Teller_put_I_24 rfl ?_
    refine ab_iload_n (i := 1) d_Teller_put_I_26 rfl rfl ?_
    refine ab_bipush (v := 10) d_Teller_put_I_27 rfl ?_
    refine ab_idiv d_Teller_put_I_29 (by decide) ?_
    refine ab_bipush (v := 10) d_Teller_put_I_30 rfl ?_
    refine ab_irem d_Teller_put_I_32 (by decide) ?_
    refine ab_iadd d_Teller_put_I_33 ?_
    obtain ⟨I3, hC, h⟩ := h
    refine ab_callV (me2 := mt_Teller_putSign) (b := kx_teller) (as := [.int (48 + ((v1 / 10) - (v1 / 10) / 10 * 10))]) (st := []) (rv := none) (M2 := (I3, L, ab_RR, n, nc, ns)) d_Teller_put_I_34 ce_Teller_putSign v_1230 v_1232 v_57 (by decide) rfl (Nat.le_of_ble_eq_true rfl) hC (Nat.le_refl _) (Nat.le_refl _) hc hs (fun j h9 => by cases h9) (fun _ _ => rfl) ?_
    show ab_E w (d + 1) mt_Teller_put_I 37 [.ref kx_teller, .int v1] [] (I3, L, ab_RR, n, nc, ns) res
    exact h
theorem q_Teller_put_I_37 {w : ab_Wd} {d n nc ns : Nat} {I : Nat → Nat → Int32} {L : Nat → Nat → Int64} {res : ab_Re} (v1 : Int32) (hc : nc ≤ res.2.2.2.2.2.1) (hs : ns ≤ res.2.2.2.2.2.2)
    (h : ∃ (I2 : Nat → Nat → Int32), ab_C w d mt_Teller_putSign [.ref kx_teller, .int (48 + (v1 - v1 / 10 * 10))] (I, L, ab_RR, n, nc, ns) (.inl none, (I2, L, ab_RR, n, nc, ns)) ∧ res = (.inl none, (I2, L, ab_RR, n, nc, ns))) : ab_E w (d + 1) mt_Teller_put_I 37 [.ref kx_teller, .int v1] [] (I, L, ab_RR, n, nc, ns) res := by
  refine ab_aload_n (i := 0) d_Teller_put_I_37 rfl rfl ?_
  refine ab_bipush (v := 48) d_Teller_put_I_38 rfl ?_
  refine ab_iload_n (i := 1) d_Teller_put_I_40 rfl rfl ?_
  refine ab_bipush (v := 10) d_Teller_put_I_41 rfl ?_
  refine ab_irem d_Teller_put_I_43 (by decide) ?_
  refine ab_iadd d_Teller_put_I_44 ?_
  obtain ⟨I2, hC, h⟩ := h
  refine ab_callV (me2 := mt_Teller_putSign) (b := kx_teller) (as := [.int (48 + (v1 - v1 / 10 * 10))]) (st := []) (rv := none) (M2 := (I2, L, ab_RR, n, nc, ns)) d_Teller_put_I_45 ce_Teller_putSign v_1230 v_1232 v_57 (by decide) rfl (Nat.le_of_ble_eq_true rfl) hC (Nat.le_refl _) (Nat.le_refl _) hc hs (fun j h9 => by cases h9) (fun _ _ => rfl) ?_
  show ab_E w (d + 1) mt_Teller_put_I 48 [.ref kx_teller, .int v1] [] (I2, L, ab_RR, n, nc, ns) res
  exact ab_vret d_Teller_put_I_48 rfl h
theorem d_Teller_put_S_0 : decode (ab_bc mt_Teller_put_S) 0 = .ok (.iconst 0, 1) := by decide +kernel
theorem d_Teller_put_S_1 : decode (ab_bc mt_Teller_put_S) 1 = .ok (.istore_n 2, 1) := by decide +kernel
theorem d_Teller_put_S_2 : decode (ab_bc mt_Teller_put_S) 2 = .ok (.iload_n 2, 1) := by decide +kernel
theorem d_Teller_put_S_3 : decode (ab_bc mt_Teller_put_S) 3 = .ok (.aload_n 1, 1) := by decide +kernel
theorem d_Teller_put_S_4 : decode (ab_bc mt_Teller_put_S) 4 = .ok (.invokevirtual 61, 3) := by decide +kernel
theorem d_Teller_put_S_7 : decode (ab_bc mt_Teller_put_S) 7 = .ok (.if_icmp .ge 18, 3) := by decide +kernel
theorem d_Teller_put_S_10 : decode (ab_bc mt_Teller_put_S) 10 = .ok (.aload_n 0, 1) := by decide +kernel
theorem d_Teller_put_S_11 : decode (ab_bc mt_Teller_put_S) 11 = .ok (.aload_n 1, 1) := by decide +kernel
theorem d_Teller_put_S_12 : decode (ab_bc mt_Teller_put_S) 12 = .ok (.iload_n 2, 1) := by decide +kernel
theorem d_Teller_put_S_13 : decode (ab_bc mt_Teller_put_S) 13 = .ok (.invokevirtual 66, 3) := by decide +kernel
theorem d_Teller_put_S_16 : decode (ab_bc mt_Teller_put_S) 16 = .ok (.invokevirtual 70, 3) := by decide +kernel
theorem d_Teller_put_S_19 : decode (ab_bc mt_Teller_put_S) 19 = .ok (.iinc 2 1, 3) := by decide +kernel
theorem d_Teller_put_S_22 : decode (ab_bc mt_Teller_put_S) 22 = .ok (.goto (-20), 3) := by decide +kernel
theorem d_Teller_put_S_25 : decode (ab_bc mt_Teller_put_S) 25 = .ok (.return_, 1) := by decide +kernel
-- CableKeeper$Teller.put(Ljava/lang/String;)V over kx_teller, S:j
theorem q_Teller_put_S_0 {w : ab_Wd} {d n nc ns : Nat} {I : Nat → Nat → Int32} {L : Nat → Nat → Int64} {res : ab_Re} {j : Nat} (hj : j < 8) (hc : nc ≤ res.2.2.2.2.2.1) (hs : ns ≤ res.2.2.2.2.2.2)
    (h : ab_E w (d + 1) mt_Teller_put_S 2 [.ref kx_teller, .ref (64 * j + 32), .int 0] [] (I, L, ab_RR, n, nc, ns) res) : ab_E w (d + 1) mt_Teller_put_S 0 [.ref kx_teller, .ref (64 * j + 32), .null] [] (I, L, ab_RR, n, nc, ns) res := by
  refine ab_iconst (v := 0) d_Teller_put_S_0 rfl ?_
  refine ab_istore_n (i := 2) d_Teller_put_S_1 rfl (by decide) (Or.inr rfl) ?_
  exact h
theorem q_Teller_put_S_2 {w : ab_Wd} {d n nc ns : Nat} {I : Nat → Nat → Int32} {L : Nat → Nat → Int64} {res : ab_Re} {j : Nat} (hj : j < 8) (v2 : Int32) (hc : nc ≤ res.2.2.2.2.2.1) (hs : ns ≤ res.2.2.2.2.2.2)
    (h : ∃ (r1 : Int32), ab_C w d mt_Str_length [.ref (64 * j + 32)] (I, L, ab_RR, n, nc, ns) (.inl (some (.int r1)), (I, L, ab_RR, n, nc, ns)) ∧ ((r1 ≤ v2 → (res = (.inl none, (I, L, ab_RR, n, nc, ns)))) ∧ (¬ r1 ≤ v2 → (∃ (r3 : Int32), ab_C w d mt_Str_charAt [.ref (64 * j + 32), .int v2] (I, L, ab_RR, n, nc, ns) (.inl (some (.int r3)), (I, L, ab_RR, n, nc, ns)) ∧ ∃ (I5 : Nat → Nat → Int32), ab_C w d mt_Teller_putSign [.ref kx_teller, .int r3] (I, L, ab_RR, n, nc, ns) (.inl none, (I5, L, ab_RR, n, nc, ns)) ∧ ab_E w (d + 1) mt_Teller_put_S 2 [.ref kx_teller, .ref (64 * j + 32), .int (v2 + 1)] [] (I5, L, ab_RR, n, nc, ns) res)))) : ab_E w (d + 1) mt_Teller_put_S 2 [.ref kx_teller, .ref (64 * j + 32), .int v2] [] (I, L, ab_RR, n, nc, ns) res := by
  refine ab_iload_n (i := 2) d_Teller_put_S_2 rfl rfl ?_
  refine ab_aload_n (i := 1) d_Teller_put_S_3 rfl rfl ?_
  obtain ⟨r1, hC, h⟩ := h
  refine ab_callT (me2 := mt_Str_length) (j := j) (as := []) (st := [.int v2]) (rv := (some (.int r1))) (M2 := (I, L, ab_RR, n, nc, ns)) d_Teller_put_S_4 hj ce_Str_length v_1228 v_834 v_835 rfl (Nat.le_of_ble_eq_true rfl) hC (Nat.le_refl _) (Nat.le_refl _) hc hs (fun j h9 => by cases h9) (fun _ _ => rfl) ?_
  show ab_E w (d + 1) mt_Teller_put_S 7 [.ref kx_teller, .ref (64 * j + 32), .int v2] [.int r1, .int v2] (I, L, ab_RR, n, nc, ns) res
  refine ab_icmp_ge (tgt := 25) d_Teller_put_S_7 (by decide) (fun c2 => ?_) (fun c2 => ?_)
  · have h := h.1 c2
    exact ab_vret d_Teller_put_S_25 rfl h
  · have h := h.2 c2
    refine ab_aload_n (i := 0) d_Teller_put_S_10 rfl rfl ?_
    refine ab_aload_n (i := 1) d_Teller_put_S_11 rfl rfl ?_
    refine ab_iload_n (i := 2) d_Teller_put_S_12 rfl rfl ?_
    obtain ⟨r3, hC, h⟩ := h
    refine ab_callT (me2 := mt_Str_charAt) (j := j) (as := [.int v2]) (st := [.ref kx_teller]) (rv := (some (.int r3))) (M2 := (I, L, ab_RR, n, nc, ns)) d_Teller_put_S_13 hj ce_Str_charAt v_1229 v_844 v_845 rfl (Nat.le_of_ble_eq_true rfl) hC (Nat.le_refl _) (Nat.le_refl _) hc hs (fun j h9 => by cases h9) (fun _ _ => rfl) ?_
    show ab_E w (d + 1) mt_Teller_put_S 16 [.ref kx_teller, .ref (64 * j + 32), .int v2] [.int r3, .ref kx_teller] (I, L, ab_RR, n, nc, ns) res
    obtain ⟨I5, hC, h⟩ := h
    refine ab_callV (me2 := mt_Teller_putSign) (b := kx_teller) (as := [.int r3]) (st := []) (rv := none) (M2 := (I5, L, ab_RR, n, nc, ns)) d_Teller_put_S_16 ce_Teller_putSign v_1230 v_1232 v_57 (by decide) rfl (Nat.le_of_ble_eq_true rfl) hC (Nat.le_refl _) (Nat.le_refl _) hc hs (fun j h9 => by cases h9) (fun _ _ => rfl) ?_
    show ab_E w (d + 1) mt_Teller_put_S 19 [.ref kx_teller, .ref (64 * j + 32), .int v2] [] (I5, L, ab_RR, n, nc, ns) res
    refine ab_iinc (i := 2) (v := (v2 + 1)) d_Teller_put_S_19 rfl rfl (by decide) (Or.inr rfl) ?_
    refine ab_goto (tgt := 2) d_Teller_put_S_22 (by decide) ?_
    exact h
theorem d_Teller_putSign_0 : decode (ab_bc mt_Teller_putSign) 0 = .ok (.aload_n 0, 1) := by decide +kernel
theorem d_Teller_putSign_1 : decode (ab_bc mt_Teller_putSign) 1 = .ok (.getfield 15, 3) := by decide +kernel
theorem d_Teller_putSign_4 : decode (ab_bc mt_Teller_putSign) 4 = .ok (.aload_n 0, 1) := by decide +kernel
theorem d_Teller_putSign_5 : decode (ab_bc mt_Teller_putSign) 5 = .ok (.getfield 9, 3) := by decide +kernel
theorem d_Teller_putSign_8 : decode (ab_bc mt_Teller_putSign) 8 = .ok (.arraylength, 1) := by decide +kernel
theorem d_Teller_putSign_9 : decode (ab_bc mt_Teller_putSign) 9 = .ok (.if_icmp .ge 24, 3) := by decide +kernel
theorem d_Teller_putSign_12 : decode (ab_bc mt_Teller_putSign) 12 = .ok (.aload_n 0, 1) := by decide +kernel
theorem d_Teller_putSign_13 : decode (ab_bc mt_Teller_putSign) 13 = .ok (.getfield 9, 3) := by decide +kernel
theorem d_Teller_putSign_16 : decode (ab_bc mt_Teller_putSign) 16 = .ok (.aload_n 0, 1) := by decide +kernel
theorem d_Teller_putSign_17 : decode (ab_bc mt_Teller_putSign) 17 = .ok (.getfield 15, 3) := by decide +kernel
theorem d_Teller_putSign_20 : decode (ab_bc mt_Teller_putSign) 20 = .ok (.iload_n 1, 1) := by decide +kernel
theorem d_Teller_putSign_21 : decode (ab_bc mt_Teller_putSign) 21 = .ok (.i2b, 1) := by decide +kernel
theorem d_Teller_putSign_22 : decode (ab_bc mt_Teller_putSign) 22 = .ok (.bastore, 1) := by decide +kernel
theorem d_Teller_putSign_23 : decode (ab_bc mt_Teller_putSign) 23 = .ok (.aload_n 0, 1) := by decide +kernel
theorem d_Teller_putSign_24 : decode (ab_bc mt_Teller_putSign) 24 = .ok (.dup, 1) := by decide +kernel
theorem d_Teller_putSign_25 : decode (ab_bc mt_Teller_putSign) 25 = .ok (.getfield 15, 3) := by decide +kernel
theorem d_Teller_putSign_28 : decode (ab_bc mt_Teller_putSign) 28 = .ok (.iconst 1, 1) := by decide +kernel
theorem d_Teller_putSign_29 : decode (ab_bc mt_Teller_putSign) 29 = .ok (.iadd, 1) := by decide +kernel
theorem d_Teller_putSign_30 : decode (ab_bc mt_Teller_putSign) 30 = .ok (.putfield 15, 3) := by decide +kernel
theorem d_Teller_putSign_33 : decode (ab_bc mt_Teller_putSign) 33 = .ok (.return_, 1) := by decide +kernel
-- CableKeeper$Teller.putSign(I)V over kx_teller
theorem q_Teller_putSign_0 {w : ab_Wd} {d n nc ns : Nat} {I : Nat → Nat → Int32} {L : Nat → Nat → Int64} {res : ab_Re} (v1 : Int32) (hc : nc ≤ res.2.2.2.2.2.1) (hs : ns ≤ res.2.2.2.2.2.2)
    (h : ((700 ≤ (I kx_teller 1) → (ab_E w d mt_Teller_putSign 33 [.ref kx_teller, .int v1] [] (I, L, ab_RR, n, nc, ns) res)) ∧ (¬ 700 ≤ (I kx_teller 1) → ((vp_in (I kx_teller 1) 700) ∧ ab_E w d mt_Teller_putSign 33 [.ref kx_teller, .int v1] [] ((ab_up (ab_up I kx_teller_text (I kx_teller 1).toNatClampNeg (vp_nar .byte (ab_i2b8 v1))) kx_teller 1 ((I kx_teller 1) + 1)), L, ab_RR, n, nc, ns) res)))) : ab_E w d mt_Teller_putSign 0 [.ref kx_teller, .int v1] [] (I, L, ab_RR, n, nc, ns) res := by
  refine ab_aload_n (i := 0) d_Teller_putSign_0 rfl rfl ?_
  refine ab_getI (ci := 8) (k := 1) d_Teller_putSign_1 v_429 rfl (by decide) (by decide) rfl ?_
  refine ab_aload_n (i := 0) d_Teller_putSign_4 rfl rfl ?_
  refine ab_getR (ci := 8) (k := 0) (j := kx_teller_text) d_Teller_putSign_5 v_427 rfl (by decide) (by decide) rfl r_kx_teller_0 ?_
  refine ab_alen (v := 700) d_Teller_putSign_8 (by decide) (by decide) rfl ?_
  refine ab_icmp_ge (tgt := 33) d_Teller_putSign_9 (by decide) (fun c1 => ?_) (fun c1 => ?_)
  · have h := h.1 c1
    exact h
  · have h := h.2 c1
    refine ab_aload_n (i := 0) d_Teller_putSign_12 rfl rfl ?_
    refine ab_getR (ci := 8) (k := 0) (j := kx_teller_text) d_Teller_putSign_13 v_427 rfl (by decide) (by decide) rfl r_kx_teller_0 ?_
    refine ab_aload_n (i := 0) d_Teller_putSign_16 rfl rfl ?_
    refine ab_getI (ci := 8) (k := 1) d_Teller_putSign_17 v_429 rfl (by decide) (by decide) rfl ?_
    refine ab_iload_n (i := 1) d_Teller_putSign_20 rfl rfl ?_
    refine ab_i2b d_Teller_putSign_21 ?_
    have g2 := h.1; have h := h.2
    refine ab_bast d_Teller_putSign_22 rfl rfl g2 ?_
    refine ab_aload_n (i := 0) d_Teller_putSign_23 rfl rfl ?_
    refine ab_dupr d_Teller_putSign_24 ?_
    refine ab_getI (ci := 8) (k := 1) d_Teller_putSign_25 v_429 rfl (by decide) (by decide) rfl ?_
    refine ab_iconst (v := 1) d_Teller_putSign_28 rfl ?_
    refine ab_iadd d_Teller_putSign_29 ?_
    refine ab_putI (ci := 8) (k := 1) d_Teller_putSign_30 v_429 rfl (by decide) (by decide) rfl (Or.inl rfl) rfl rfl ?_
    exact h
theorem q_Teller_putSign_33 {w : ab_Wd} {d n nc ns : Nat} {I : Nat → Nat → Int32} {L : Nat → Nat → Int64} {res : ab_Re} (v1 : Int32) (hc : nc ≤ res.2.2.2.2.2.1) (hs : ns ≤ res.2.2.2.2.2.2)
    (h : res = (.inl none, (I, L, ab_RR, n, nc, ns))) : ab_E w d mt_Teller_putSign 33 [.ref kx_teller, .int v1] [] (I, L, ab_RR, n, nc, ns) res := by
  exact ab_vret d_Teller_putSign_33 rfl h
