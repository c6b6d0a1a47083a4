theorem d_K_price_0 : decode (ab_bc mt_K_price) 0 = .ok (.aload_n 0, 1) := by decide +kernel
theorem d_K_price_1 : decode (ab_bc mt_K_price) 1 = .ok (.getfield 23, 3) := by decide +kernel
theorem d_K_price_4 : decode (ab_bc mt_K_price) 4 = .ok (.getfield 110, 3) := by decide +kernel
theorem d_K_price_7 : decode (ab_bc mt_K_price) 7 = .ok (.astore_n 3, 1) := by decide +kernel
theorem d_K_price_8 : decode (ab_bc mt_K_price) 8 = .ok (.aload_n 3, 1) := by decide +kernel
theorem d_K_price_9 : decode (ab_bc mt_K_price) 9 = .ok (.iload_n 1, 1) := by decide +kernel
theorem d_K_price_10 : decode (ab_bc mt_K_price) 10 = .ok (.invokevirtual 329, 3) := by decide +kernel
theorem d_K_price_13 : decode (ab_bc mt_K_price) 13 = .ok (.ifCond .eq 20, 3) := by decide +kernel
theorem d_K_price_16 : decode (ab_bc mt_K_price) 16 = .ok (.iload_n 2, 1) := by decide +kernel
theorem d_K_price_17 : decode (ab_bc mt_K_price) 17 = .ok (.invokestatic 332, 3) := by decide +kernel
theorem d_K_price_20 : decode (ab_bc mt_K_price) 20 = .ok (.ifCond .eq 13, 3) := by decide +kernel
theorem d_K_price_23 : decode (ab_bc mt_K_price) 23 = .ok (.aload_n 3, 1) := by decide +kernel
theorem d_K_price_24 : decode (ab_bc mt_K_price) 24 = .ok (.getfield 195, 3) := by decide +kernel
theorem d_K_price_27 : decode (ab_bc mt_K_price) 27 = .ok (.iload_n 1, 1) := by decide +kernel
theorem d_K_price_28 : decode (ab_bc mt_K_price) 28 = .ok (.iaload, 1) := by decide +kernel
theorem d_K_price_29 : decode (ab_bc mt_K_price) 29 = .ok (.iload_n 2, 1) := by decide +kernel
theorem d_K_price_30 : decode (ab_bc mt_K_price) 30 = .ok (.if_icmp .ne 9, 3) := by decide +kernel
theorem d_K_price_33 : decode (ab_bc mt_K_price) 33 = .ok (.aload_n 0, 1) := by decide +kernel
theorem d_K_price_34 : decode (ab_bc mt_K_price) 34 = .ok (.iconst 1, 1) := by decide +kernel
theorem d_K_price_35 : decode (ab_bc mt_K_price) 35 = .ok (.invokevirtual 335, 3) := by decide +kernel
theorem d_K_price_38 : decode (ab_bc mt_K_price) 38 = .ok (.ireturn, 1) := by decide +kernel
theorem d_K_price_39 : decode (ab_bc mt_K_price) 39 = .ok (.aload_n 3, 1) := by decide +kernel
theorem d_K_price_40 : decode (ab_bc mt_K_price) 40 = .ok (.getfield 195, 3) := by decide +kernel
theorem d_K_price_43 : decode (ab_bc mt_K_price) 43 = .ok (.iload_n 1, 1) := by decide +kernel
theorem d_K_price_44 : decode (ab_bc mt_K_price) 44 = .ok (.iaload, 1) := by decide +kernel
theorem d_K_price_45 : decode (ab_bc mt_K_price) 45 = .ok (.istore 4, 2) := by decide +kernel
theorem d_K_price_47 : decode (ab_bc mt_K_price) 47 = .ok (.aload_n 0, 1) := by decide +kernel
theorem d_K_price_48 : decode (ab_bc mt_K_price) 48 = .ok (.getfield 23, 3) := by decide +kernel
theorem d_K_price_51 : decode (ab_bc mt_K_price) 51 = .ok (.invokevirtual 338, 3) := by decide +kernel
theorem d_K_price_54 : decode (ab_bc mt_K_price) 54 = .ok (.aload_n 0, 1) := by decide +kernel
theorem d_K_price_55 : decode (ab_bc mt_K_price) 55 = .ok (.iload_n 1, 1) := by decide +kernel
theorem d_K_price_56 : decode (ab_bc mt_K_price) 56 = .ok (.iload_n 2, 1) := by decide +kernel
theorem d_K_price_57 : decode (ab_bc mt_K_price) 57 = .ok (.invokevirtual 341, 3) := by decide +kernel
theorem d_K_price_60 : decode (ab_bc mt_K_price) 60 = .ok (.aload_n 0, 1) := by decide +kernel
theorem d_K_price_61 : decode (ab_bc mt_K_price) 61 = .ok (.getfield 44, 3) := by decide +kernel
theorem d_K_price_64 : decode (ab_bc mt_K_price) 64 = .ok (.aload_n 3, 1) := by decide +kernel
theorem d_K_price_65 : decode (ab_bc mt_K_price) 65 = .ok (.aload_n 0, 1) := by decide +kernel
theorem d_K_price_66 : decode (ab_bc mt_K_price) 66 = .ok (.getfield 37, 3) := by decide +kernel
theorem d_K_price_69 : decode (ab_bc mt_K_price) 69 = .ok (.invokevirtual 345, 3) := by decide +kernel
theorem d_K_price_72 : decode (ab_bc mt_K_price) 72 = .ok (.iload 4, 2) := by decide +kernel
theorem d_K_price_74 : decode (ab_bc mt_K_price) 74 = .ok (.ireturn, 1) := by decide +kernel
-- CableKeeper.price(II)I over kx
theorem q_K_price_0 {w : ab_Wd} {d n nc ns : Nat} {I : Nat → Nat → Int32} {L : Nat → Nat → Int64} {res : ab_Re} (v1 : Int32) (v2 : Int32) (hc : nc ≤ res.2.2.2.2.2.1) (hs : ns ≤ res.2.2.2.2.2.2)
    (h : ∃ (r1 : Int32), ab_C w d mt_Cables_has [.ref kx_now_cables, .int v1] (I, L, ab_RR, n, nc, ns) (.inl (some (.int r1)), (I, L, ab_RR, n, nc, ns)) ∧ ((r1 = 0 → (ab_E w (d + 1) mt_K_price 33 [.ref kx, .int v1, .int v2, .ref kx_now_cables, .null] [] (I, L, ab_RR, n, nc, ns) res)) ∧ (¬ r1 = 0 → (∃ (r3 : Int32), ab_C w d mt_K_isPrice [.int v2] (I, L, ab_RR, n, nc, ns) (.inl (some (.int r3)), (I, L, ab_RR, n, nc, ns)) ∧ ((r3 = 0 → (ab_E w (d + 1) mt_K_price 33 [.ref kx, .int v1, .int v2, .ref kx_now_cables, .null] [] (I, L, ab_RR, n, nc, ns) res)) ∧ (¬ r3 = 0 → ((vp_in v1 24) ∧ ((¬ (I kx_now_cables_price v1.toNatClampNeg) = v2 → (∃ (I8 : Nat → Nat → Int32), ab_C w d mt_State_keepAct [.ref kx_now] (I, L, ab_RR, n, nc, ns) (.inl none, (I8, L, ab_RR, n, nc, ns)) ∧ ∃ (I10 : Nat → Nat → Int32), ab_C w d mt_K_tellPrice [.ref kx, .int v1, .int v2] (I8, L, ab_RR, n, nc, ns) (.inl none, (I10, L, ab_RR, n, nc, ns)) ∧ ∃ (I12 : Nat → Nat → Int32), ab_C w d mt_Ways_trace [.ref kx_ways, .ref kx_now_cables, .ref kx_forest] (I10, L, ab_RR, n, nc, ns) (.inl none, (I12, L, ab_RR, n, nc, ns)) ∧ res = (.inl (some (.int (I kx_now_cables_price v1.toNatClampNeg))), (I12, L, ab_RR, n, nc, ns)))) ∧ ((I kx_now_cables_price v1.toNatClampNeg) = v2 → (ab_E w (d + 1) mt_K_price 33 [.ref kx, .int v1, .int v2, .ref kx_now_cables, .null] [] (I, L, ab_RR, n, nc, ns) res)))))))))) : ab_E w (d + 1) mt_K_price 0 [.ref kx, .int v1, .int v2, .null, .null] [] (I, L, ab_RR, n, nc, ns) res := by
  refine ab_aload_n (i := 0) d_K_price_0 rfl rfl ?_
  refine ab_getR (ci := 10) (k := 3) (j := kx_now) d_K_price_1 v_475 rfl (by decide) (by decide) rfl r_kx_3 ?_
  refine ab_getR (ci := 6) (k := 0) (j := kx_now_cables) d_K_price_4 v_294 rfl (by decide) (by decide) rfl r_kx_now_0 ?_
  refine ab_astore_n (i := 3) d_K_price_7 rfl (by decide) (Or.inr rfl) ?_
  refine ab_aload_n (i := 3) d_K_price_8 rfl rfl ?_
  refine ab_iload_n (i := 1) d_K_price_9 rfl rfl ?_
  obtain ⟨r1, hC, h⟩ := h
  refine ab_callV (me2 := mt_Cables_has) (b := kx_now_cables) (as := [.int v1]) (st := []) (rv := (some (.int r1))) (M2 := (I, L, ab_RR, n, nc, ns)) d_K_price_10 ce_Cables_has v_567 v_568 v_569 (by decide) rfl (Nat.le_of_ble_eq_true rfl) hC (Nat.le_refl _) (Nat.le_refl _) hc hs (fun j h9 => by cases h9) (fun _ _ => rfl) ?_
  show ab_E w (d + 1) mt_K_price 13 [.ref kx, .int v1, .int v2, .ref kx_now_cables, .null] [.int r1] (I, L, ab_RR, n, nc, ns) res
  refine ab_if_eq (tgt := 33) d_K_price_13 (by decide) (fun c2 => ?_) (fun c2 => ?_)
  · have h := h.1 c2
    exact h
  · have h := h.2 c2
    refine ab_iload_n (i := 2) d_K_price_16 rfl rfl ?_
    obtain ⟨r3, hC, h⟩ := h
    refine ab_callS (me2 := mt_K_isPrice) (as := [.int v2]) (st := []) (rv := (some (.int r3))) (M2 := (I, L, ab_RR, n, nc, ns)) d_K_price_17 ce_K_isPrice ⟨v_572, Or.inl v_571⟩ (Nat.le_of_ble_eq_true rfl) hC (Nat.le_refl _) (Nat.le_refl _) hc hs (fun j h9 => by cases h9) (fun _ _ => rfl) ?_
    show ab_E w (d + 1) mt_K_price 20 [.ref kx, .int v1, .int v2, .ref kx_now_cables, .null] [.int r3] (I, L, ab_RR, n, nc, ns) res
    refine ab_if_eq (tgt := 33) d_K_price_20 (by decide) (fun c4 => ?_) (fun c4 => ?_)
    · have h := h.1 c4
      exact h
    · have h := h.2 c4
      refine ab_aload_n (i := 3) d_K_price_23 rfl rfl ?_
      refine ab_getR (ci := 1) (k := 5) (j := kx_now_cables_price) d_K_price_24 v_224 rfl (by decide) (by decide) rfl r_kx_now_cables_5 ?_
      refine ab_iload_n (i := 1) d_K_price_27 rfl rfl ?_
      have g5 := h.1; have h := h.2
      refine ab_iald d_K_price_28 rfl rfl g5 ?_
      refine ab_iload_n (i := 2) d_K_price_29 rfl rfl ?_
      refine ab_icmp_ne (tgt := 39) d_K_price_30 (by decide) (fun c6 => ?_) (fun c6 => ?_)
      · have h := h.1 c6
        refine ab_aload_n (i := 3) d_K_price_39 rfl rfl ?_
        refine ab_getR (ci := 1) (k := 5) (j := kx_now_cables_price) d_K_price_40 v_224 rfl (by decide) (by decide) rfl r_kx_now_cables_5 ?_
        refine ab_iload_n (i := 1) d_K_price_43 rfl rfl ?_
        refine ab_iald d_K_price_44 rfl rfl g5 ?_
        refine ab_istore (i := 4) d_K_price_45 (by decide) (Or.inr rfl) ?_
        refine ab_aload_n (i := 0) d_K_price_47 rfl rfl ?_
        refine ab_getR (ci := 10) (k := 3) (j := kx_now) d_K_price_48 v_475 rfl (by decide) (by decide) rfl r_kx_3 ?_
        obtain ⟨I8, hC, h⟩ := h
        refine ab_callV (me2 := mt_State_keepAct) (b := kx_now) (as := []) (st := []) (rv := none) (M2 := (I8, L, ab_RR, n, nc, ns)) d_K_price_51 ce_State_keepAct v_578 v_579 v_580 (by decide) rfl (Nat.le_of_ble_eq_true rfl) hC (Nat.le_refl _) (Nat.le_refl _) hc hs (fun j h9 => by cases h9) (fun _ _ => rfl) ?_
        show ab_E w (d + 1) mt_K_price 54 [.ref kx, .int v1, .int v2, .ref kx_now_cables, .int (I kx_now_cables_price v1.toNatClampNeg)] [] (I8, L, ab_RR, n, nc, ns) res
        refine ab_aload_n (i := 0) d_K_price_54 rfl rfl ?_
        refine ab_iload_n (i := 1) d_K_price_55 rfl rfl ?_
        refine ab_iload_n (i := 2) d_K_price_56 rfl rfl ?_
        obtain ⟨I10, hC, h⟩ := h
        refine ab_callV (me2 := mt_K_tellPrice) (b := kx) (as := [.int v1, .int v2]) (st := []) (rv := none) (M2 := (I10, L, ab_RR, n, nc, ns)) d_K_price_57 ce_K_tellPrice v_587 v_589 v_11 (by decide) rfl (Nat.le_of_ble_eq_true rfl) hC (Nat.le_refl _) (Nat.le_refl _) hc hs (fun j h9 => by cases h9) (fun _ _ => rfl) ?_
        show ab_E w (d + 1) mt_K_price 60 [.ref kx, .int v1, .int v2, .ref kx_now_cables, .int (I kx_now_cables_price v1.toNatClampNeg)] [] (I10, L, ab_RR, n, nc, ns) res
        refine ab_aload_n (i := 0) d_K_price_60 rfl rfl ?_
        refine ab_getR (ci := 10) (k := 7) (j := kx_ways) d_K_price_61 v_479 rfl (by decide) (by decide) rfl r_kx_7 ?_
        refine ab_aload_n (i := 3) d_K_price_64 rfl rfl ?_
        refine ab_aload_n (i := 0) d_K_price_65 rfl rfl ?_
        refine ab_getR (ci := 10) (k := 6) (j := kx_forest) d_K_price_66 v_478 rfl (by decide) (by decide) rfl r_kx_6 ?_
        obtain ⟨I12, hC, h⟩ := h
        refine ab_callV (me2 := mt_Ways_trace) (b := kx_ways) (as := [.ref kx_now_cables, .ref kx_forest]) (st := []) (rv := none) (M2 := (I12, L, ab_RR, n, nc, ns)) d_K_price_69 ce_Ways_trace v_453 v_454 v_455 (by decide) rfl (Nat.le_of_ble_eq_true rfl) hC (Nat.le_refl _) (Nat.le_refl _) hc hs (fun j h9 => by cases h9) (fun _ _ => rfl) ?_
        show ab_E w (d + 1) mt_K_price 72 [.ref kx, .int v1, .int v2, .ref kx_now_cables, .int (I kx_now_cables_price v1.toNatClampNeg)] [] (I12, L, ab_RR, n, nc, ns) res
        refine ab_iload (i := 4) d_K_price_72 rfl ?_
        exact ab_iret (ty := .int) d_K_price_74 rfl rfl h
      · have h := h.2 c6
        exact h
theorem q_K_price_33 {w : ab_Wd} {d n nc ns : Nat} {I : Nat → Nat → Int32} {L : Nat → Nat → Int64} {res : ab_Re} (v1 : Int32) (v2 : Int32) (hc : nc ≤ res.2.2.2.2.2.1) (hs : ns ≤ res.2.2.2.2.2.2)
    (h : ∃ (r1 : Int32) (I2 : Nat → Nat → Int32), ab_C w d mt_K_refuse [.ref kx, .int 1] (I, L, ab_RR, n, nc, ns) (.inl (some (.int r1)), (I2, L, ab_RR, n, nc, ns)) ∧ res = (.inl (some (.int r1)), (I2, L, ab_RR, n, nc, ns))) : ab_E w (d + 1) mt_K_price 33 [.ref kx, .int v1, .int v2, .ref kx_now_cables, .null] [] (I, L, ab_RR, n, nc, ns) res := by
  refine ab_aload_n (i := 0) d_K_price_33 rfl rfl ?_
  refine ab_iconst (v := 1) d_K_price_34 rfl ?_
  obtain ⟨r1, I2, hC, h⟩ := h
  refine ab_callV (me2 := mt_K_refuse) (b := kx) (as := [.int 1]) (st := []) (rv := (some (.int r1))) (M2 := (I2, L, ab_RR, n, nc, ns)) d_K_price_35 ce_K_refuse v_574 v_576 v_10 (by decide) rfl (Nat.le_of_ble_eq_true rfl) hC (Nat.le_refl _) (Nat.le_refl _) hc hs (fun j h9 => by cases h9) (fun _ _ => rfl) ?_
  show ab_E w (d + 1) mt_K_price 38 [.ref kx, .int v1, .int v2, .ref kx_now_cables, .null] [.int r1] (I2, L, ab_RR, n, nc, ns) res
  exact ab_iret (ty := .int) d_K_price_38 rfl rfl h
theorem d_K_all_0 : decode (ab_bc mt_K_all) 0 = .ok (.aload_n 0, 1) := by decide +kernel
theorem d_K_all_1 : decode (ab_bc mt_K_all) 1 = .ok (.getfield 23, 3) := by decide +kernel
theorem d_K_all_4 : decode (ab_bc mt_K_all) 4 = .ok (.getfield 110, 3) := by decide +kernel
theorem d_K_all_7 : decode (ab_bc mt_K_all) 7 = .ok (.astore_n 3, 1) := by decide +kernel
theorem d_K_all_8 : decode (ab_bc mt_K_all) 8 = .ok (.iload_n 1, 1) := by decide +kernel
theorem d_K_all_9 : decode (ab_bc mt_K_all) 9 = .ok (.invokestatic 267, 3) := by decide +kernel
theorem d_K_all_12 : decode (ab_bc mt_K_all) 12 = .ok (.ifCond .eq 23, 3) := by decide +kernel
theorem d_K_all_15 : decode (ab_bc mt_K_all) 15 = .ok (.iload_n 2, 1) := by decide +kernel
theorem d_K_all_16 : decode (ab_bc mt_K_all) 16 = .ok (.bipush (-50), 2) := by decide +kernel
theorem d_K_all_18 : decode (ab_bc mt_K_all) 18 = .ok (.if_icmp .lt 17, 3) := by decide +kernel
theorem d_K_all_21 : decode (ab_bc mt_K_all) 21 = .ok (.iload_n 2, 1) := by decide +kernel
theorem d_K_all_22 : decode (ab_bc mt_K_all) 22 = .ok (.bipush 100, 2) := by decide +kernel
theorem d_K_all_24 : decode (ab_bc mt_K_all) 24 = .ok (.if_icmp .gt 11, 3) := by decide +kernel
theorem d_K_all_27 : decode (ab_bc mt_K_all) 27 = .ok (.aload_n 3, 1) := by decide +kernel
theorem d_K_all_28 : decode (ab_bc mt_K_all) 28 = .ok (.iload_n 1, 1) := by decide +kernel
theorem d_K_all_29 : decode (ab_bc mt_K_all) 29 = .ok (.invokevirtual 270, 3) := by decide +kernel
theorem d_K_all_32 : decode (ab_bc mt_K_all) 32 = .ok (.ifCond .ne 9, 3) := by decide +kernel
theorem d_K_all_35 : decode (ab_bc mt_K_all) 35 = .ok (.aload_n 0, 1) := by decide +kernel
theorem d_K_all_36 : decode (ab_bc mt_K_all) 36 = .ok (.iconst 1, 1) := by decide +kernel
theorem d_K_all_37 : decode (ab_bc mt_K_all) 37 = .ok (.invokevirtual 335, 3) := by decide +kernel
theorem d_K_all_40 : decode (ab_bc mt_K_all) 40 = .ok (.ireturn, 1) := by decide +kernel
theorem d_K_all_41 : decode (ab_bc mt_K_all) 41 = .ok (.aload_n 0, 1) := by decide +kernel
theorem d_K_all_42 : decode (ab_bc mt_K_all) 42 = .ok (.getfield 23, 3) := by decide +kernel
theorem d_K_all_45 : decode (ab_bc mt_K_all) 45 = .ok (.invokevirtual 338, 3) := by decide +kernel
theorem d_K_all_48 : decode (ab_bc mt_K_all) 48 = .ok (.iconst 0, 1) := by decide +kernel
theorem d_K_all_49 : decode (ab_bc mt_K_all) 49 = .ok (.istore 4, 2) := by decide +kernel
theorem d_K_all_51 : decode (ab_bc mt_K_all) 51 = .ok (.iload 4, 2) := by decide +kernel
theorem d_K_all_53 : decode (ab_bc mt_K_all) 53 = .ok (.aload_n 3, 1) := by decide +kernel
theorem d_K_all_54 : decode (ab_bc mt_K_all) 54 = .ok (.getfield 116, 3) := by decide +kernel
theorem d_K_all_57 : decode (ab_bc mt_K_all) 57 = .ok (.if_icmp .ge 44, 3) := by decide +kernel
theorem d_K_all_60 : decode (ab_bc mt_K_all) 60 = .ok (.aload_n 3, 1) := by decide +kernel
theorem d_K_all_61 : decode (ab_bc mt_K_all) 61 = .ok (.getfield 198, 3) := by decide +kernel
theorem d_K_all_64 : decode (ab_bc mt_K_all) 64 = .ok (.iload 4, 2) := by decide +kernel
theorem d_K_all_66 : decode (ab_bc mt_K_all) 66 = .ok (.iaload, 1) := by decide +kernel
theorem d_K_all_67 : decode (ab_bc mt_K_all) 67 = .ok (.iload_n 1, 1) := by decide +kernel
theorem d_K_all_68 : decode (ab_bc mt_K_all) 68 = .ok (.if_icmp .ne 27, 3) := by decide +kernel
theorem d_K_all_71 : decode (ab_bc mt_K_all) 71 = .ok (.aload_n 0, 1) := by decide +kernel
theorem d_K_all_72 : decode (ab_bc mt_K_all) 72 = .ok (.iload 4, 2) := by decide +kernel
theorem d_K_all_74 : decode (ab_bc mt_K_all) 74 = .ok (.aload_n 3, 1) := by decide +kernel
theorem d_K_all_75 : decode (ab_bc mt_K_all) 75 = .ok (.getfield 195, 3) := by decide +kernel
theorem d_K_all_78 : decode (ab_bc mt_K_all) 78 = .ok (.iload 4, 2) := by decide +kernel
theorem d_K_all_80 : decode (ab_bc mt_K_all) 80 = .ok (.iaload, 1) := by decide +kernel
theorem d_K_all_81 : decode (ab_bc mt_K_all) 81 = .ok (.bipush 100, 2) := by decide +kernel
theorem d_K_all_83 : decode (ab_bc mt_K_all) 83 = .ok (.iload_n 2, 1) := by decide +kernel
theorem d_K_all_84 : decode (ab_bc mt_K_all) 84 = .ok (.iadd, 1) := by decide +kernel
theorem d_K_all_85 : decode (ab_bc mt_K_all) 85 = .ok (.imul, 1) := by decide +kernel
theorem d_K_all_86 : decode (ab_bc mt_K_all) 86 = .ok (.bipush 100, 2) := by decide +kernel
theorem d_K_all_88 : decode (ab_bc mt_K_all) 88 = .ok (.idiv, 1) := by decide +kernel
theorem d_K_all_89 : decode (ab_bc mt_K_all) 89 = .ok (.invokestatic 349, 3) := by decide +kernel
theorem d_K_all_92 : decode (ab_bc mt_K_all) 92 = .ok (.invokevirtual 341, 3) := by decide +kernel
theorem d_K_all_95 : decode (ab_bc mt_K_all) 95 = .ok (.iinc 4 1, 3) := by decide +kernel
theorem d_K_all_98 : decode (ab_bc mt_K_all) 98 = .ok (.goto (-47), 3) := by decide +kernel
theorem d_K_all_101 : decode (ab_bc mt_K_all) 101 = .ok (.aload_n 0, 1) := by decide +kernel
theorem d_K_all_102 : decode (ab_bc mt_K_all) 102 = .ok (.getfield 44, 3) := by decide +kernel
theorem d_K_all_105 : decode (ab_bc mt_K_all) 105 = .ok (.aload_n 3, 1) := by decide +kernel
theorem d_K_all_106 : decode (ab_bc mt_K_all) 106 = .ok (.aload_n 0, 1) := by decide +kernel
theorem d_K_all_107 : decode (ab_bc mt_K_all) 107 = .ok (.getfield 37, 3) := by decide +kernel
theorem d_K_all_110 : decode (ab_bc mt_K_all) 110 = .ok (.invokevirtual 345, 3) := by decide +kernel
theorem d_K_all_113 : decode (ab_bc mt_K_all) 113 = .ok (.aload_n 0, 1) := by decide +kernel
theorem d_K_all_114 : decode (ab_bc mt_K_all) 114 = .ok (.getfield 37, 3) := by decide +kernel
theorem d_K_all_117 : decode (ab_bc mt_K_all) 117 = .ok (.getfield 125, 3) := by decide +kernel
theorem d_K_all_120 : decode (ab_bc mt_K_all) 120 = .ok (.ireturn, 1) := by decide +kernel
-- CableKeeper.all(II)I over kx
theorem q_K_all_0 {w : ab_Wd} {d n nc ns : Nat} {I : Nat → Nat → Int32} {L : Nat → Nat → Int64} {res : ab_Re} (v1 : Int32) (v2 : Int32) (hc : nc ≤ res.2.2.2.2.2.1) (hs : ns ≤ res.2.2.2.2.2.2)
    (h : ∃ (r1 : Int32), ab_C w d mt_K_isFirm [.int v1] (I, L, ab_RR, n, nc, ns) (.inl (some (.int r1)), (I, L, ab_RR, n, nc, ns)) ∧ ((r1 = 0 → (ab_E w (d + 1) mt_K_all 35 [.ref kx, .int v1, .int v2, .ref kx_now_cables, .null] [] (I, L, ab_RR, n, nc, ns) res)) ∧ (¬ r1 = 0 → ((v2 < (-50) → (ab_E w (d + 1) mt_K_all 35 [.ref kx, .int v1, .int v2, .ref kx_now_cables, .null] [] (I, L, ab_RR, n, nc, ns) res)) ∧ (¬ v2 < (-50) → ((100 < v2 → (ab_E w (d + 1) mt_K_all 35 [.ref kx, .int v1, .int v2, .ref kx_now_cables, .null] [] (I, L, ab_RR, n, nc, ns) res)) ∧ (¬ 100 < v2 → (∃ (r5 : Int32), ab_C w d mt_Cables_ofFirm [.ref kx_now_cables, .int v1] (I, L, ab_RR, n, nc, ns) (.inl (some (.int r5)), (I, L, ab_RR, n, nc, ns)) ∧ ((¬ r5 = 0 → (∃ (I8 : Nat → Nat → Int32), ab_C w d mt_State_keepAct [.ref kx_now] (I, L, ab_RR, n, nc, ns) (.inl none, (I8, L, ab_RR, n, nc, ns)) ∧ ab_E w (d + 1) mt_K_all 51 [.ref kx, .int v1, .int v2, .ref kx_now_cables, .int 0] [] (I8, L, ab_RR, n, nc, ns) res)) ∧ (r5 = 0 → (ab_E w (d + 1) mt_K_all 35 [.ref kx, .int v1, .int v2, .ref kx_now_cables, .null] [] (I, L, ab_RR, n, nc, ns) res))))))))))) : ab_E w (d + 1) mt_K_all 0 [.ref kx, .int v1, .int v2, .null, .null] [] (I, L, ab_RR, n, nc, ns) res := by
  refine ab_aload_n (i := 0) d_K_all_0 rfl rfl ?_
  refine ab_getR (ci := 10) (k := 3) (j := kx_now) d_K_all_1 v_475 rfl (by decide) (by decide) rfl r_kx_3 ?_
  refine ab_getR (ci := 6) (k := 0) (j := kx_now_cables) d_K_all_4 v_294 rfl (by decide) (by decide) rfl r_kx_now_0 ?_
  refine ab_astore_n (i := 3) d_K_all_7 rfl (by decide) (Or.inr rfl) ?_
  refine ab_iload_n (i := 1) d_K_all_8 rfl rfl ?_
  obtain ⟨r1, hC, h⟩ := h
  refine ab_callS (me2 := mt_K_isFirm) (as := [.int v1]) (st := []) (rv := (some (.int r1))) (M2 := (I, L, ab_RR, n, nc, ns)) d_K_all_9 ce_K_isFirm ⟨v_611, Or.inl v_610⟩ (Nat.le_of_ble_eq_true rfl) hC (Nat.le_refl _) (Nat.le_refl _) hc hs (fun j h9 => by cases h9) (fun _ _ => rfl) ?_
  show ab_E w (d + 1) mt_K_all 12 [.ref kx, .int v1, .int v2, .ref kx_now_cables, .null] [.int r1] (I, L, ab_RR, n, nc, ns) res
  refine ab_if_eq (tgt := 35) d_K_all_12 (by decide) (fun c2 => ?_) (fun c2 => ?_)
  · have h := h.1 c2
    exact h
  · have h := h.2 c2
    refine ab_iload_n (i := 2) d_K_all_15 rfl rfl ?_
    refine ab_bipush (v := (-50)) d_K_all_16 rfl ?_
    refine ab_icmp_lt (tgt := 35) d_K_all_18 (by decide) (fun c3 => ?_) (fun c3 => ?_)
    · have h := h.1 c3
      exact h
    · have h := h.2 c3
      refine ab_iload_n (i := 2) d_K_all_21 rfl rfl ?_
      refine ab_bipush (v := 100) d_K_all_22 rfl ?_
      refine ab_icmp_gt (tgt := 35) d_K_all_24 (by decide) (fun c4 => ?_) (fun c4 => ?_)
      · have h := h.1 c4
        exact h
      · have h := h.2 c4
        refine ab_aload_n (i := 3) d_K_all_27 rfl rfl ?_
        refine ab_iload_n (i := 1) d_K_all_28 rfl rfl ?_
        obtain ⟨r5, hC, h⟩ := h
        refine ab_callV (me2 := mt_Cables_ofFirm) (b := kx_now_cables) (as := [.int v1]) (st := []) (rv := (some (.int r5))) (M2 := (I, L, ab_RR, n, nc, ns)) d_K_all_29 ce_Cables_ofFirm v_613 v_614 v_615 (by decide) rfl (Nat.le_of_ble_eq_true rfl) hC (Nat.le_refl _) (Nat.le_refl _) hc hs (fun j h9 => by cases h9) (fun _ _ => rfl) ?_
        show ab_E w (d + 1) mt_K_all 32 [.ref kx, .int v1, .int v2, .ref kx_now_cables, .null] [.int r5] (I, L, ab_RR, n, nc, ns) res
        refine ab_if_ne (tgt := 41) d_K_all_32 (by decide) (fun c6 => ?_) (fun c6 => ?_)
        · have h := h.1 c6
          refine ab_aload_n (i := 0) d_K_all_41 rfl rfl ?_
          refine ab_getR (ci := 10) (k := 3) (j := kx_now) d_K_all_42 v_475 rfl (by decide) (by decide) rfl r_kx_3 ?_
          obtain ⟨I8, hC, h⟩ := h
          refine ab_callV (me2 := mt_State_keepAct) (b := kx_now) (as := []) (st := []) (rv := none) (M2 := (I8, L, ab_RR, n, nc, ns)) d_K_all_45 ce_State_keepAct v_578 v_579 v_580 (by decide) rfl (Nat.le_of_ble_eq_true rfl) hC (Nat.le_refl _) (Nat.le_refl _) hc hs (fun j h9 => by cases h9) (fun _ _ => rfl) ?_
          show ab_E w (d + 1) mt_K_all 48 [.ref kx, .int v1, .int v2, .ref kx_now_cables, .null] [] (I8, L, ab_RR, n, nc, ns) res
          refine ab_iconst (v := 0) d_K_all_48 rfl ?_
          refine ab_istore (i := 4) d_K_all_49 (by decide) (Or.inr rfl) ?_
          exact h
        · have h := h.2 c6
          exact h
theorem q_K_all_35 {w : ab_Wd} {d n nc ns : Nat} {I : Nat → Nat → Int32} {L : Nat → Nat → Int64} {res : ab_Re} (v1 : Int32) (v2 : Int32) (hc : nc ≤ res.2.2.2.2.2.1) (hs : ns ≤ res.2.2.2.2.2.2)
    (h : ∃ (r1 : Int32) (I2 : Nat → Nat → Int32), ab_C w d mt_K_refuse [.ref kx, .int 1] (I, L, ab_RR, n, nc, ns) (.inl (some (.int r1)), (I2, L, ab_RR, n, nc, ns)) ∧ res = (.inl (some (.int r1)), (I2, L, ab_RR, n, nc, ns))) : ab_E w (d + 1) mt_K_all 35 [.ref kx, .int v1, .int v2, .ref kx_now_cables, .null] [] (I, L, ab_RR, n, nc, ns) res := by
  refine ab_aload_n (i := 0) d_K_all_35 rfl rfl ?_
  refine ab_iconst (v := 1) d_K_all_36 rfl ?_
  obtain ⟨r1, I2, hC, h⟩ := h
  refine ab_callV (me2 := mt_K_refuse) (b := kx) (as := [.int 1]) (st := []) (rv := (some (.int r1))) (M2 := (I2, L, ab_RR, n, nc, ns)) d_K_all_37 ce_K_refuse v_574 v_576 v_10 (by decide) rfl (Nat.le_of_ble_eq_true rfl) hC (Nat.le_refl _) (Nat.le_refl _) hc hs (fun j h9 => by cases h9) (fun _ _ => rfl) ?_
  show ab_E w (d + 1) mt_K_all 40 [.ref kx, .int v1, .int v2, .ref kx_now_cables, .null] [.int r1] (I2, L, ab_RR, n, nc, ns) res
  exact ab_iret (ty := .int) d_K_all_40 rfl rfl h
theorem q_K_all_51 {w : ab_Wd} {d n nc ns : Nat} {I : Nat → Nat → Int32} {L : Nat → Nat → Int64} {res : ab_Re} (v1 : Int32) (v2 : Int32) (v4 : Int32) (hc : nc ≤ res.2.2.2.2.2.1) (hs : ns ≤ res.2.2.2.2.2.2)
    (h : (((I kx_now_cables 1) ≤ v4 → (∃ (I3 : Nat → Nat → Int32), ab_C w d mt_Ways_trace [.ref kx_ways, .ref kx_now_cables, .ref kx_forest] (I, L, ab_RR, n, nc, ns) (.inl none, (I3, L, ab_RR, n, nc, ns)) ∧ res = (.inl (some (.int (I3 kx_forest 3))), (I3, L, ab_RR, n, nc, ns)))) ∧ (¬ (I kx_now_cables 1) ≤ v4 → ((vp_in v4 24) ∧ ((¬ (I kx_now_cables_firm v4.toNatClampNeg) = v1 → (ab_E w (d + 1) mt_K_all 95 [.ref kx, .int v1, .int v2, .ref kx_now_cables, .int v4] [] (I, L, ab_RR, n, nc, ns) res)) ∧ ((I kx_now_cables_firm v4.toNatClampNeg) = v1 → (∃ (r6 : Int32), ab_C w d mt_K_asPrice [.int (((I kx_now_cables_price v4.toNatClampNeg) * (100 + v2)) / 100)] (I, L, ab_RR, n, nc, ns) (.inl (some (.int r6)), (I, L, ab_RR, n, nc, ns)) ∧ ∃ (I8 : Nat → Nat → Int32), ab_C w d mt_K_tellPrice [.ref kx, .int v4, .int r6] (I, L, ab_RR, n, nc, ns) (.inl none, (I8, L, ab_RR, n, nc, ns)) ∧ ab_E w (d + 1) mt_K_all 95 [.ref kx, .int v1, .int v2, .ref kx_now_cables, .int v4] [] (I8, L, ab_RR, n, nc, ns) res))))))) : ab_E w (d + 1) mt_K_all 51 [.ref kx, .int v1, .int v2, .ref kx_now_cables, .int v4] [] (I, L, ab_RR, n, nc, ns) res := by
  refine ab_iload (i := 4) d_K_all_51 rfl ?_
  refine ab_aload_n (i := 3) d_K_all_53 rfl rfl ?_
  refine ab_getI (ci := 1) (k := 1) d_K_all_54 v_199 rfl (by decide) (by decide) rfl ?_
  refine ab_icmp_ge (tgt := 101) d_K_all_57 (by decide) (fun c1 => ?_) (fun c1 => ?_)
  · have h := h.1 c1
    refine ab_aload_n (i := 0) d_K_all_101 rfl rfl ?_
    refine ab_getR (ci := 10) (k := 7) (j := kx_ways) d_K_all_102 v_479 rfl (by decide) (by decide) rfl r_kx_7 ?_
    refine ab_aload_n (i := 3) d_K_all_105 rfl rfl ?_
    refine ab_aload_n (i := 0) d_K_all_106 rfl rfl ?_
    refine ab_getR (ci := 10) (k := 6) (j := kx_forest) d_K_all_107 v_478 rfl (by decide) (by decide) rfl r_kx_6 ?_
    obtain ⟨I3, hC, h⟩ := h
    refine ab_callV (me2 := mt_Ways_trace) (b := kx_ways) (as := [.ref kx_now_cables, .ref kx_forest]) (st := []) (rv := none) (M2 := (I3, L, ab_RR, n, nc, ns)) d_K_all_110 ce_Ways_trace v_453 v_454 v_455 (by decide) rfl (Nat.le_of_ble_eq_true rfl) hC (Nat.le_refl _) (Nat.le_refl _) hc hs (fun j h9 => by cases h9) (fun _ _ => rfl) ?_
    show ab_E w (d + 1) mt_K_all 113 [.ref kx, .int v1, .int v2, .ref kx_now_cables, .int v4] [] (I3, L, ab_RR, n, nc, ns) res
    refine ab_aload_n (i := 0) d_K_all_113 rfl rfl ?_
    refine ab_getR (ci := 10) (k := 6) (j := kx_forest) d_K_all_114 v_478 rfl (by decide) (by decide) rfl r_kx_6 ?_
    refine ab_getI (ci := 2) (k := 3) d_K_all_117 v_337 rfl (by decide) (by decide) rfl ?_
    exact ab_iret (ty := .int) d_K_all_120 rfl rfl h
  · have h := h.2 c1
    refine ab_aload_n (i := 3) d_K_all_60 rfl rfl ?_
    refine ab_getR (ci := 1) (k := 6) (j := kx_now_cables_firm) d_K_all_61 v_228 rfl (by decide) (by decide) rfl r_kx_now_cables_6 ?_
    refine ab_iload (i := 4) d_K_all_64 rfl ?_
    have g4 := h.1; have h := h.2
    refine ab_iald d_K_all_66 rfl rfl g4 ?_
    refine ab_iload_n (i := 1) d_K_all_67 rfl rfl ?_
    refine ab_icmp_ne (tgt := 95) d_K_all_68 (by decide) (fun c5 => ?_) (fun c5 => ?_)
    · have h := h.1 c5
      exact h
    · have h := h.2 c5
      refine ab_aload_n (i := 0) d_K_all_71 rfl rfl ?_
      refine ab_iload (i := 4) d_K_all_72 rfl ?_
      refine ab_aload_n (i := 3) d_K_all_74 rfl rfl ?_
      refine ab_getR (ci := 1) (k := 5) (j := kx_now_cables_price) d_K_all_75 v_224 rfl (by decide) (by decide) rfl r_kx_now_cables_5 ?_
      refine ab_iload (i := 4) d_K_all_78 rfl ?_
      refine ab_iald d_K_all_80 rfl rfl g4 ?_
      refine ab_bipush (v := 100) d_K_all_81 rfl ?_
      refine ab_iload_n (i := 2) d_K_all_83 rfl rfl ?_
      refine ab_iadd d_K_all_84 ?_
      refine ab_imul d_K_all_85 ?_
      refine ab_bipush (v := 100) d_K_all_86 rfl ?_
      refine ab_idiv d_K_all_88 (by decide) ?_
      obtain ⟨r6, hC, h⟩ := h
      refine ab_callS (me2 := mt_K_asPrice) (as := [.int (((I kx_now_cables_price v4.toNatClampNeg) * (100 + v2)) / 100)]) (st := [.int v4, .ref kx]) (rv := (some (.int r6))) (M2 := (I, L, ab_RR, n, nc, ns)) d_K_all_89 ce_K_asPrice ⟨v_618, Or.inl v_617⟩ (Nat.le_of_ble_eq_true rfl) hC (Nat.le_refl _) (Nat.le_refl _) hc hs (fun j h9 => by cases h9) (fun _ _ => rfl) ?_
      show ab_E w (d + 1) mt_K_all 92 [.ref kx, .int v1, .int v2, .ref kx_now_cables, .int v4] [.int r6, .int v4, .ref kx] (I, L, ab_RR, n, nc, ns) res
      obtain ⟨I8, hC, h⟩ := h
      refine ab_callV (me2 := mt_K_tellPrice) (b := kx) (as := [.int v4, .int r6]) (st := []) (rv := none) (M2 := (I8, L, ab_RR, n, nc, ns)) d_K_all_92 ce_K_tellPrice v_587 v_589 v_11 (by decide) rfl (Nat.le_of_ble_eq_true rfl) hC (Nat.le_refl _) (Nat.le_refl _) hc hs (fun j h9 => by cases h9) (fun _ _ => rfl) ?_
      show ab_E w (d + 1) mt_K_all 95 [.ref kx, .int v1, .int v2, .ref kx_now_cables, .int v4] [] (I8, L, ab_RR, n, nc, ns) res
      exact h
theorem q_K_all_95 {w : ab_Wd} {d n nc ns : Nat} {I : Nat → Nat → Int32} {L : Nat → Nat → Int64} {res : ab_Re} (v1 : Int32) (v2 : Int32) (v4 : Int32) (hc : nc ≤ res.2.2.2.2.2.1) (hs : ns ≤ res.2.2.2.2.2.2)
    (h : ab_E w (d + 1) mt_K_all 51 [.ref kx, .int v1, .int v2, .ref kx_now_cables, .int (v4 + 1)] [] (I, L, ab_RR, n, nc, ns) res) : ab_E w (d + 1) mt_K_all 95 [.ref kx, .int v1, .int v2, .ref kx_now_cables, .int v4] [] (I, L, ab_RR, n, nc, ns) res := by
  refine ab_iinc (i := 4) (v := (v4 + 1)) d_K_all_95 rfl rfl (by decide) (Or.inr rfl) ?_
  refine ab_goto (tgt := 51) d_K_all_98 (by decide) ?_
  exact h
theorem d_K_breaks_0 : decode (ab_bc mt_K_breaks) 0 = .ok (.aload_n 0, 1) := by decide +kernel
theorem d_K_breaks_1 : decode (ab_bc mt_K_breaks) 1 = .ok (.getfield 23, 3) := by decide +kernel
theorem d_K_breaks_4 : decode (ab_bc mt_K_breaks) 4 = .ok (.getfield 110, 3) := by decide +kernel
theorem d_K_breaks_7 : decode (ab_bc mt_K_breaks) 7 = .ok (.astore_n 2, 1) := by decide +kernel
theorem d_K_breaks_8 : decode (ab_bc mt_K_breaks) 8 = .ok (.aload_n 2, 1) := by decide +kernel
theorem d_K_breaks_9 : decode (ab_bc mt_K_breaks) 9 = .ok (.iload_n 1, 1) := by decide +kernel
theorem d_K_breaks_10 : decode (ab_bc mt_K_breaks) 10 = .ok (.invokevirtual 329, 3) := by decide +kernel
theorem d_K_breaks_13 : decode (ab_bc mt_K_breaks) 13 = .ok (.ifCond .eq 11, 3) := by decide +kernel
theorem d_K_breaks_16 : decode (ab_bc mt_K_breaks) 16 = .ok (.aload_n 2, 1) := by decide +kernel
theorem d_K_breaks_17 : decode (ab_bc mt_K_breaks) 17 = .ok (.iload_n 1, 1) := by decide +kernel
theorem d_K_breaks_18 : decode (ab_bc mt_K_breaks) 18 = .ok (.invokevirtual 201, 3) := by decide +kernel
theorem d_K_breaks_21 : decode (ab_bc mt_K_breaks) 21 = .ok (.ifCond .ne 9, 3) := by decide +kernel
theorem d_K_breaks_24 : decode (ab_bc mt_K_breaks) 24 = .ok (.aload_n 0, 1) := by decide +kernel
theorem d_K_breaks_25 : decode (ab_bc mt_K_breaks) 25 = .ok (.iconst 1, 1) := by decide +kernel
theorem d_K_breaks_26 : decode (ab_bc mt_K_breaks) 26 = .ok (.invokevirtual 335, 3) := by decide +kernel
theorem d_K_breaks_29 : decode (ab_bc mt_K_breaks) 29 = .ok (.ireturn, 1) := by decide +kernel
theorem d_K_breaks_30 : decode (ab_bc mt_K_breaks) 30 = .ok (.aload_n 0, 1) := by decide +kernel
theorem d_K_breaks_31 : decode (ab_bc mt_K_breaks) 31 = .ok (.getfield 23, 3) := by decide +kernel
theorem d_K_breaks_34 : decode (ab_bc mt_K_breaks) 34 = .ok (.invokevirtual 338, 3) := by decide +kernel
theorem d_K_breaks_37 : decode (ab_bc mt_K_breaks) 37 = .ok (.aload_n 2, 1) := by decide +kernel
theorem d_K_breaks_38 : decode (ab_bc mt_K_breaks) 38 = .ok (.dup, 1) := by decide +kernel
theorem d_K_breaks_39 : decode (ab_bc mt_K_breaks) 39 = .ok (.getfield 119, 3) := by decide +kernel
theorem d_K_breaks_42 : decode (ab_bc mt_K_breaks) 42 = .ok (.iconst 1, 1) := by decide +kernel
theorem d_K_breaks_43 : decode (ab_bc mt_K_breaks) 43 = .ok (.iload_n 1, 1) := by decide +kernel
theorem d_K_breaks_44 : decode (ab_bc mt_K_breaks) 44 = .ok (.ishl, 1) := by decide +kernel
theorem d_K_breaks_45 : decode (ab_bc mt_K_breaks) 45 = .ok (.iconst (-1), 1) := by decide +kernel
theorem d_K_breaks_46 : decode (ab_bc mt_K_breaks) 46 = .ok (.ixor, 1) := by decide +kernel
theorem d_K_breaks_47 : decode (ab_bc mt_K_breaks) 47 = .ok (.iand, 1) := by decide +kernel
theorem d_K_breaks_48 : decode (ab_bc mt_K_breaks) 48 = .ok (.putfield 119, 3) := by decide +kernel
theorem d_K_breaks_51 : decode (ab_bc mt_K_breaks) 51 = .ok (.aload_n 0, 1) := by decide +kernel
theorem d_K_breaks_52 : decode (ab_bc mt_K_breaks) 52 = .ok (.iconst 3, 1) := by decide +kernel
theorem d_K_breaks_53 : decode (ab_bc mt_K_breaks) 53 = .ok (.iload_n 1, 1) := by decide +kernel
theorem d_K_breaks_54 : decode (ab_bc mt_K_breaks) 54 = .ok (.invokevirtual 352, 3) := by decide +kernel
theorem d_K_breaks_57 : decode (ab_bc mt_K_breaks) 57 = .ok (.aload_n 0, 1) := by decide +kernel
theorem d_K_breaks_58 : decode (ab_bc mt_K_breaks) 58 = .ok (.getfield 44, 3) := by decide +kernel
theorem d_K_breaks_61 : decode (ab_bc mt_K_breaks) 61 = .ok (.aload_n 2, 1) := by decide +kernel
theorem d_K_breaks_62 : decode (ab_bc mt_K_breaks) 62 = .ok (.aload_n 0, 1) := by decide +kernel
theorem d_K_breaks_63 : decode (ab_bc mt_K_breaks) 63 = .ok (.getfield 37, 3) := by decide +kernel
theorem d_K_breaks_66 : decode (ab_bc mt_K_breaks) 66 = .ok (.invokevirtual 345, 3) := by decide +kernel
theorem d_K_breaks_69 : decode (ab_bc mt_K_breaks) 69 = .ok (.aload_n 0, 1) := by decide +kernel
theorem d_K_breaks_70 : decode (ab_bc mt_K_breaks) 70 = .ok (.getfield 37, 3) := by decide +kernel
theorem d_K_breaks_73 : decode (ab_bc mt_K_breaks) 73 = .ok (.getfield 128, 3) := by decide +kernel
theorem d_K_breaks_76 : decode (ab_bc mt_K_breaks) 76 = .ok (.ireturn, 1) := by decide +kernel
-- CableKeeper.breaks(I)I over kx
theorem q_K_breaks_0 {w : ab_Wd} {d n nc ns : Nat} {I : Nat → Nat → Int32} {L : Nat → Nat → Int64} {res : ab_Re} (v1 : Int32) (hc : nc ≤ res.2.2.2.2.2.1) (hs : ns ≤ res.2.2.2.2.2.2)
    (h : ∃ (r1 : Int32), ab_C w d mt_Cables_has [.ref kx_now_cables, .int v1] (I, L, ab_RR, n, nc, ns) (.inl (some (.int r1)), (I, L, ab_RR, n, nc, ns)) ∧ ((r1 = 0 → (ab_E w (d + 1) mt_K_breaks 24 [.ref kx, .int v1, .ref kx_now_cables] [] (I, L, ab_RR, n, nc, ns) res)) ∧ (¬ r1 = 0 → (∃ (r3 : Int32), ab_C w d mt_Cables_isSound [.ref kx_now_cables, .int v1] (I, L, ab_RR, n, nc, ns) (.inl (some (.int r3)), (I, L, ab_RR, n, nc, ns)) ∧ ((¬ r3 = 0 → (∃ (I6 : Nat → Nat → Int32), ab_C w d mt_State_keepAct [.ref kx_now] (I, L, ab_RR, n, nc, ns) (.inl none, (I6, L, ab_RR, n, nc, ns)) ∧ ∃ (I8 : Nat → Nat → Int32), ab_C w d mt_K_regrow [.ref kx, .int 3, .int v1] ((ab_up I6 kx_now_cables 2 ((I6 kx_now_cables 2) &&& (((1 : Int32) <<< (v1 &&& 31)) ^^^ (-1)))), L, ab_RR, n, nc, ns) (.inl none, (I8, L, ab_RR, n, nc, ns)) ∧ ∃ (I10 : Nat → Nat → Int32), ab_C w d mt_Ways_trace [.ref kx_ways, .ref kx_now_cables, .ref kx_forest] (I8, L, ab_RR, n, nc, ns) (.inl none, (I10, L, ab_RR, n, nc, ns)) ∧ res = (.inl (some (.int (I10 kx_forest 4))), (I10, L, ab_RR, n, nc, ns)))) ∧ (r3 = 0 → (ab_E w (d + 1) mt_K_breaks 24 [.ref kx, .int v1, .ref kx_now_cables] [] (I, L, ab_RR, n, nc, ns) res))))))) : ab_E w (d + 1) mt_K_breaks 0 [.ref kx, .int v1, .null] [] (I, L, ab_RR, n, nc, ns) res := by
  refine ab_aload_n (i := 0) d_K_breaks_0 rfl rfl ?_
  refine ab_getR (ci := 10) (k := 3) (j := kx_now) d_K_breaks_1 v_475 rfl (by decide) (by decide) rfl r_kx_3 ?_
  refine ab_getR (ci := 6) (k := 0) (j := kx_now_cables) d_K_breaks_4 v_294 rfl (by decide) (by decide) rfl r_kx_now_0 ?_
  refine ab_astore_n (i := 2) d_K_breaks_7 rfl (by decide) (Or.inr rfl) ?_
  refine ab_aload_n (i := 2) d_K_breaks_8 rfl rfl ?_
  refine ab_iload_n (i := 1) d_K_breaks_9 rfl rfl ?_
  obtain ⟨r1, hC, h⟩ := h
  refine ab_callV (me2 := mt_Cables_has) (b := kx_now_cables) (as := [.int v1]) (st := []) (rv := (some (.int r1))) (M2 := (I, L, ab_RR, n, nc, ns)) d_K_breaks_10 ce_Cables_has v_567 v_568 v_569 (by decide) rfl (Nat.le_of_ble_eq_true rfl) hC (Nat.le_refl _) (Nat.le_refl _) hc hs (fun j h9 => by cases h9) (fun _ _ => rfl) ?_
  show ab_E w (d + 1) mt_K_breaks 13 [.ref kx, .int v1, .ref kx_now_cables] [.int r1] (I, L, ab_RR, n, nc, ns) res
  refine ab_if_eq (tgt := 24) d_K_breaks_13 (by decide) (fun c2 => ?_) (fun c2 => ?_)
  · have h := h.1 c2
    exact h
  · have h := h.2 c2
    refine ab_aload_n (i := 2) d_K_breaks_16 rfl rfl ?_
    refine ab_iload_n (i := 1) d_K_breaks_17 rfl rfl ?_
    obtain ⟨r3, hC, h⟩ := h
    refine ab_callV (me2 := mt_Cables_isSound) (b := kx_now_cables) (as := [.int v1]) (st := []) (rv := (some (.int r3))) (M2 := (I, L, ab_RR, n, nc, ns)) d_K_breaks_18 ce_Cables_isSound v_624 v_540 v_541 (by decide) rfl (Nat.le_of_ble_eq_true rfl) hC (Nat.le_refl _) (Nat.le_refl _) hc hs (fun j h9 => by cases h9) (fun _ _ => rfl) ?_
    show ab_E w (d + 1) mt_K_breaks 21 [.ref kx, .int v1, .ref kx_now_cables] [.int r3] (I, L, ab_RR, n, nc, ns) res
    refine ab_if_ne (tgt := 30) d_K_breaks_21 (by decide) (fun c4 => ?_) (fun c4 => ?_)
    · have h := h.1 c4
      refine ab_aload_n (i := 0) d_K_breaks_30 rfl rfl ?_
      refine ab_getR (ci := 10) (k := 3) (j := kx_now) d_K_breaks_31 v_475 rfl (by decide) (by decide) rfl r_kx_3 ?_
      obtain ⟨I6, hC, h⟩ := h
      refine ab_callV (me2 := mt_State_keepAct) (b := kx_now) (as := []) (st := []) (rv := none) (M2 := (I6, L, ab_RR, n, nc, ns)) d_K_breaks_34 ce_State_keepAct v_578 v_579 v_580 (by decide) rfl (Nat.le_of_ble_eq_true rfl) hC (Nat.le_refl _) (Nat.le_refl _) hc hs (fun j h9 => by cases h9) (fun _ _ => rfl) ?_
      show ab_E w (d + 1) mt_K_breaks 37 [.ref kx, .int v1, .ref kx_now_cables] [] (I6, L, ab_RR, n, nc, ns) res
      refine ab_aload_n (i := 2) d_K_breaks_37 rfl rfl ?_
      refine ab_dupr d_K_breaks_38 ?_
      refine ab_getI (ci := 1) (k := 2) d_K_breaks_39 v_202 rfl (by decide) (by decide) rfl ?_
      refine ab_iconst (v := 1) d_K_breaks_42 rfl ?_
      refine ab_iload_n (i := 1) d_K_breaks_43 rfl rfl ?_
      refine ab_ishl d_K_breaks_44 ?_
      refine ab_iconst (v := (-1)) d_K_breaks_45 rfl ?_
      refine ab_ixor d_K_breaks_46 ?_
      refine ab_iand d_K_breaks_47 ?_
      refine ab_putI (ci := 1) (k := 2) d_K_breaks_48 v_202 rfl (by decide) (by decide) rfl (Or.inl rfl) rfl rfl ?_
      refine ab_aload_n (i := 0) d_K_breaks_51 rfl rfl ?_
      refine ab_iconst (v := 3) d_K_breaks_52 rfl ?_
      refine ab_iload_n (i := 1) d_K_breaks_53 rfl rfl ?_
      obtain ⟨I8, hC, h⟩ := h
      refine ab_callV (me2 := mt_K_regrow) (b := kx) (as := [.int 3, .int v1]) (st := []) (rv := none) (M2 := (I8, L, ab_RR, n, nc, ns)) d_K_breaks_54 ce_K_regrow v_595 v_597 v_12 (by decide) rfl (Nat.le_of_ble_eq_true rfl) hC (Nat.le_refl _) (Nat.le_refl _) hc hs (fun j h9 => by cases h9) (fun _ _ => rfl) ?_
      show ab_E w (d + 1) mt_K_breaks 57 [.ref kx, .int v1, .ref kx_now_cables] [] (I8, L, ab_RR, n, nc, ns) res
      refine ab_aload_n (i := 0) d_K_breaks_57 rfl rfl ?_
      refine ab_getR (ci := 10) (k := 7) (j := kx_ways) d_K_breaks_58 v_479 rfl (by decide) (by decide) rfl r_kx_7 ?_
      refine ab_aload_n (i := 2) d_K_breaks_61 rfl rfl ?_
      refine ab_aload_n (i := 0) d_K_breaks_62 rfl rfl ?_
      refine ab_getR (ci := 10) (k := 6) (j := kx_forest) d_K_breaks_63 v_478 rfl (by decide) (by decide) rfl r_kx_6 ?_
      obtain ⟨I10, hC, h⟩ := h
      refine ab_callV (me2 := mt_Ways_trace) (b := kx_ways) (as := [.ref kx_now_cables, .ref kx_forest]) (st := []) (rv := none) (M2 := (I10, L, ab_RR, n, nc, ns)) d_K_breaks_66 ce_Ways_trace v_453 v_454 v_455 (by decide) rfl (Nat.le_of_ble_eq_true rfl) hC (Nat.le_refl _) (Nat.le_refl _) hc hs (fun j h9 => by cases h9) (fun _ _ => rfl) ?_
      show ab_E w (d + 1) mt_K_breaks 69 [.ref kx, .int v1, .ref kx_now_cables] [] (I10, L, ab_RR, n, nc, ns) res
      refine ab_aload_n (i := 0) d_K_breaks_69 rfl rfl ?_
      refine ab_getR (ci := 10) (k := 6) (j := kx_forest) d_K_breaks_70 v_478 rfl (by decide) (by decide) rfl r_kx_6 ?_
      refine ab_getI (ci := 2) (k := 4) d_K_breaks_73 v_339 rfl (by decide) (by decide) rfl ?_
      exact ab_iret (ty := .int) d_K_breaks_76 rfl rfl h
    · have h := h.2 c4
      exact h
theorem q_K_breaks_24 {w : ab_Wd} {d n nc ns : Nat} {I : Nat → Nat → Int32} {L : Nat → Nat → Int64} {res : ab_Re} (v1 : Int32) (hc : nc ≤ res.2.2.2.2.2.1) (hs : ns ≤ res.2.2.2.2.2.2)
    (h : ∃ (r1 : Int32) (I2 : Nat → Nat → Int32), ab_C w d mt_K_refuse [.ref kx, .int 1] (I, L, ab_RR, n, nc, ns) (.inl (some (.int r1)), (I2, L, ab_RR, n, nc, ns)) ∧ res = (.inl (some (.int r1)), (I2, L, ab_RR, n, nc, ns))) : ab_E w (d + 1) mt_K_breaks 24 [.ref kx, .int v1, .ref kx_now_cables] [] (I, L, ab_RR, n, nc, ns) res := by
  refine ab_aload_n (i := 0) d_K_breaks_24 rfl rfl ?_
  refine ab_iconst (v := 1) d_K_breaks_25 rfl ?_
  obtain ⟨r1, I2, hC, h⟩ := h
  refine ab_callV (me2 := mt_K_refuse) (b := kx) (as := [.int 1]) (st := []) (rv := (some (.int r1))) (M2 := (I2, L, ab_RR, n, nc, ns)) d_K_breaks_26 ce_K_refuse v_574 v_576 v_10 (by decide) rfl (Nat.le_of_ble_eq_true rfl) hC (Nat.le_refl _) (Nat.le_refl _) hc hs (fun j h9 => by cases h9) (fun _ _ => rfl) ?_
  show ab_E w (d + 1) mt_K_breaks 29 [.ref kx, .int v1, .ref kx_now_cables] [.int r1] (I2, L, ab_RR, n, nc, ns) res
  exact ab_iret (ty := .int) d_K_breaks_29 rfl rfl h
theorem d_K_mend_0 : decode (ab_bc mt_K_mend) 0 = .ok (.aload_n 0, 1) := by decide +kernel
theorem d_K_mend_1 : decode (ab_bc mt_K_mend) 1 = .ok (.getfield 23, 3) := by decide +kernel
theorem d_K_mend_4 : decode (ab_bc mt_K_mend) 4 = .ok (.getfield 110, 3) := by decide +kernel
theorem d_K_mend_7 : decode (ab_bc mt_K_mend) 7 = .ok (.astore_n 2, 1) := by decide +kernel
theorem d_K_mend_8 : decode (ab_bc mt_K_mend) 8 = .ok (.aload_n 2, 1) := by decide +kernel
theorem d_K_mend_9 : decode (ab_bc mt_K_mend) 9 = .ok (.iload_n 1, 1) := by decide +kernel
theorem d_K_mend_10 : decode (ab_bc mt_K_mend) 10 = .ok (.invokevirtual 329, 3) := by decide +kernel
theorem d_K_mend_13 : decode (ab_bc mt_K_mend) 13 = .ok (.ifCond .eq 11, 3) := by decide +kernel
theorem d_K_mend_16 : decode (ab_bc mt_K_mend) 16 = .ok (.aload_n 2, 1) := by decide +kernel
theorem d_K_mend_17 : decode (ab_bc mt_K_mend) 17 = .ok (.iload_n 1, 1) := by decide +kernel
theorem d_K_mend_18 : decode (ab_bc mt_K_mend) 18 = .ok (.invokevirtual 201, 3) := by decide +kernel
theorem d_K_mend_21 : decode (ab_bc mt_K_mend) 21 = .ok (.ifCond .eq 9, 3) := by decide +kernel
theorem d_K_mend_24 : decode (ab_bc mt_K_mend) 24 = .ok (.aload_n 0, 1) := by decide +kernel
theorem d_K_mend_25 : decode (ab_bc mt_K_mend) 25 = .ok (.iconst 1, 1) := by decide +kernel
theorem d_K_mend_26 : decode (ab_bc mt_K_mend) 26 = .ok (.invokevirtual 335, 3) := by decide +kernel
theorem d_K_mend_29 : decode (ab_bc mt_K_mend) 29 = .ok (.ireturn, 1) := by decide +kernel
theorem d_K_mend_30 : decode (ab_bc mt_K_mend) 30 = .ok (.aload_n 0, 1) := by decide +kernel
theorem d_K_mend_31 : decode (ab_bc mt_K_mend) 31 = .ok (.getfield 23, 3) := by decide +kernel
theorem d_K_mend_34 : decode (ab_bc mt_K_mend) 34 = .ok (.invokevirtual 338, 3) := by decide +kernel
theorem d_K_mend_37 : decode (ab_bc mt_K_mend) 37 = .ok (.aload_n 2, 1) := by decide +kernel
theorem d_K_mend_38 : decode (ab_bc mt_K_mend) 38 = .ok (.dup, 1) := by decide +kernel
theorem d_K_mend_39 : decode (ab_bc mt_K_mend) 39 = .ok (.getfield 119, 3) := by decide +kernel
theorem d_K_mend_42 : decode (ab_bc mt_K_mend) 42 = .ok (.iconst 1, 1) := by decide +kernel
theorem d_K_mend_43 : decode (ab_bc mt_K_mend) 43 = .ok (.iload_n 1, 1) := by decide +kernel
theorem d_K_mend_44 : decode (ab_bc mt_K_mend) 44 = .ok (.ishl, 1) := by decide +kernel
theorem d_K_mend_45 : decode (ab_bc mt_K_mend) 45 = .ok (.ior, 1) := by decide +kernel
theorem d_K_mend_46 : decode (ab_bc mt_K_mend) 46 = .ok (.putfield 119, 3) := by decide +kernel
theorem d_K_mend_49 : decode (ab_bc mt_K_mend) 49 = .ok (.aload_n 0, 1) := by decide +kernel
theorem d_K_mend_50 : decode (ab_bc mt_K_mend) 50 = .ok (.iconst 4, 1) := by decide +kernel
theorem d_K_mend_51 : decode (ab_bc mt_K_mend) 51 = .ok (.iload_n 1, 1) := by decide +kernel
theorem d_K_mend_52 : decode (ab_bc mt_K_mend) 52 = .ok (.invokevirtual 352, 3) := by decide +kernel
theorem d_K_mend_55 : decode (ab_bc mt_K_mend) 55 = .ok (.aload_n 0, 1) := by decide +kernel
theorem d_K_mend_56 : decode (ab_bc mt_K_mend) 56 = .ok (.getfield 44, 3) := by decide +kernel
theorem d_K_mend_59 : decode (ab_bc mt_K_mend) 59 = .ok (.aload_n 2, 1) := by decide +kernel
theorem d_K_mend_60 : decode (ab_bc mt_K_mend) 60 = .ok (.aload_n 0, 1) := by decide +kernel
theorem d_K_mend_61 : decode (ab_bc mt_K_mend) 61 = .ok (.getfield 37, 3) := by decide +kernel
theorem d_K_mend_64 : decode (ab_bc mt_K_mend) 64 = .ok (.invokevirtual 345, 3) := by decide +kernel
theorem d_K_mend_67 : decode (ab_bc mt_K_mend) 67 = .ok (.aload_n 0, 1) := by decide +kernel
theorem d_K_mend_68 : decode (ab_bc mt_K_mend) 68 = .ok (.getfield 37, 3) := by decide +kernel
theorem d_K_mend_71 : decode (ab_bc mt_K_mend) 71 = .ok (.getfield 128, 3) := by decide +kernel
theorem d_K_mend_74 : decode (ab_bc mt_K_mend) 74 = .ok (.ireturn, 1) := by decide +kernel
-- CableKeeper.mend(I)I over kx
theorem q_K_mend_0 {w : ab_Wd} {d n nc ns : Nat} {I : Nat → Nat → Int32} {L : Nat → Nat → Int64} {res : ab_Re} (v1 : Int32) (hc : nc ≤ res.2.2.2.2.2.1) (hs : ns ≤ res.2.2.2.2.2.2)
    (h : ∃ (r1 : Int32), ab_C w d mt_Cables_has [.ref kx_now_cables, .int v1] (I, L, ab_RR, n, nc, ns) (.inl (some (.int r1)), (I, L, ab_RR, n, nc, ns)) ∧ ((r1 = 0 → (ab_E w (d + 1) mt_K_mend 24 [.ref kx, .int v1, .ref kx_now_cables] [] (I, L, ab_RR, n, nc, ns) res)) ∧ (¬ r1 = 0 → (∃ (r3 : Int32), ab_C w d mt_Cables_isSound [.ref kx_now_cables, .int v1] (I, L, ab_RR, n, nc, ns) (.inl (some (.int r3)), (I, L, ab_RR, n, nc, ns)) ∧ ((r3 = 0 → (∃ (I6 : Nat → Nat → Int32), ab_C w d mt_State_keepAct [.ref kx_now] (I, L, ab_RR, n, nc, ns) (.inl none, (I6, L, ab_RR, n, nc, ns)) ∧ ∃ (I8 : Nat → Nat → Int32), ab_C w d mt_K_regrow [.ref kx, .int 4, .int v1] ((ab_up I6 kx_now_cables 2 ((I6 kx_now_cables 2) ||| ((1 : Int32) <<< (v1 &&& 31)))), L, ab_RR, n, nc, ns) (.inl none, (I8, L, ab_RR, n, nc, ns)) ∧ ∃ (I10 : Nat → Nat → Int32), ab_C w d mt_Ways_trace [.ref kx_ways, .ref kx_now_cables, .ref kx_forest] (I8, L, ab_RR, n, nc, ns) (.inl none, (I10, L, ab_RR, n, nc, ns)) ∧ res = (.inl (some (.int (I10 kx_forest 4))), (I10, L, ab_RR, n, nc, ns)))) ∧ (¬ r3 = 0 → (ab_E w (d + 1) mt_K_mend 24 [.ref kx, .int v1, .ref kx_now_cables] [] (I, L, ab_RR, n, nc, ns) res))))))) : ab_E w (d + 1) mt_K_mend 0 [.ref kx, .int v1, .null] [] (I, L, ab_RR, n, nc, ns) res := by
  refine ab_aload_n (i := 0) d_K_mend_0 rfl rfl ?_
  refine ab_getR (ci := 10) (k := 3) (j := kx_now) d_K_mend_1 v_475 rfl (by decide) (by decide) rfl r_kx_3 ?_
  refine ab_getR (ci := 6) (k := 0) (j := kx_now_cables) d_K_mend_4 v_294 rfl (by decide) (by decide) rfl r_kx_now_0 ?_
  refine ab_astore_n (i := 2) d_K_mend_7 rfl (by decide) (Or.inr rfl) ?_
  refine ab_aload_n (i := 2) d_K_mend_8 rfl rfl ?_
  refine ab_iload_n (i := 1) d_K_mend_9 rfl rfl ?_
  obtain ⟨r1, hC, h⟩ := h
  refine ab_callV (me2 := mt_Cables_has) (b := kx_now_cables) (as := [.int v1]) (st := []) (rv := (some (.int r1))) (M2 := (I, L, ab_RR, n, nc, ns)) d_K_mend_10 ce_Cables_has v_567 v_568 v_569 (by decide) rfl (Nat.le_of_ble_eq_true rfl) hC (Nat.le_refl _) (Nat.le_refl _) hc hs (fun j h9 => by cases h9) (fun _ _ => rfl) ?_
  show ab_E w (d + 1) mt_K_mend 13 [.ref kx, .int v1, .ref kx_now_cables] [.int r1] (I, L, ab_RR, n, nc, ns) res
  refine ab_if_eq (tgt := 24) d_K_mend_13 (by decide) (fun c2 => ?_) (fun c2 => ?_)
  · have h := h.1 c2
    exact h
  · have h := h.2 c2
    refine ab_aload_n (i := 2) d_K_mend_16 rfl rfl ?_
    refine ab_iload_n (i := 1) d_K_mend_17 rfl rfl ?_
    obtain ⟨r3, hC, h⟩ := h
    refine ab_callV (me2 := mt_Cables_isSound) (b := kx_now_cables) (as := [.int v1]) (st := []) (rv := (some (.int r3))) (M2 := (I, L, ab_RR, n, nc, ns)) d_K_mend_18 ce_Cables_isSound v_624 v_540 v_541 (by decide) rfl (Nat.le_of_ble_eq_true rfl) hC (Nat.le_refl _) (Nat.le_refl _) hc hs (fun j h9 => by cases h9) (fun _ _ => rfl) ?_
    show ab_E w (d + 1) mt_K_mend 21 [.ref kx, .int v1, .ref kx_now_cables] [.int r3] (I, L, ab_RR, n, nc, ns) res
    refine ab_if_eq (tgt := 30) d_K_mend_21 (by decide) (fun c4 => ?_) (fun c4 => ?_)
    · have h := h.1 c4
      refine ab_aload_n (i := 0) d_K_mend_30 rfl rfl ?_
      refine ab_getR (ci := 10) (k := 3) (j := kx_now) d_K_mend_31 v_475 rfl (by decide) (by decide) rfl r_kx_3 ?_
      obtain ⟨I6, hC, h⟩ := h
      refine ab_callV (me2 := mt_State_keepAct) (b := kx_now) (as := []) (st := []) (rv := none) (M2 := (I6, L, ab_RR, n, nc, ns)) d_K_mend_34 ce_State_keepAct v_578 v_579 v_580 (by decide) rfl (Nat.le_of_ble_eq_true rfl) hC (Nat.le_refl _) (Nat.le_refl _) hc hs (fun j h9 => by cases h9) (fun _ _ => rfl) ?_
      show ab_E w (d + 1) mt_K_mend 37 [.ref kx, .int v1, .ref kx_now_cables] [] (I6, L, ab_RR, n, nc, ns) res
      refine ab_aload_n (i := 2) d_K_mend_37 rfl rfl ?_
      refine ab_dupr d_K_mend_38 ?_
      refine ab_getI (ci := 1) (k := 2) d_K_mend_39 v_202 rfl (by decide) (by decide) rfl ?_
      refine ab_iconst (v := 1) d_K_mend_42 rfl ?_
      refine ab_iload_n (i := 1) d_K_mend_43 rfl rfl ?_
      refine ab_ishl d_K_mend_44 ?_
      refine ab_ior d_K_mend_45 ?_
      refine ab_putI (ci := 1) (k := 2) d_K_mend_46 v_202 rfl (by decide) (by decide) rfl (Or.inl rfl) rfl rfl ?_
      refine ab_aload_n (i := 0) d_K_mend_49 rfl rfl ?_
      refine ab_iconst (v := 4) d_K_mend_50 rfl ?_
      refine ab_iload_n (i := 1) d_K_mend_51 rfl rfl ?_
      obtain ⟨I8, hC, h⟩ := h
      refine ab_callV (me2 := mt_K_regrow) (b := kx) (as := [.int 4, .int v1]) (st := []) (rv := none) (M2 := (I8, L, ab_RR, n, nc, ns)) d_K_mend_52 ce_K_regrow v_595 v_597 v_12 (by decide) rfl (Nat.le_of_ble_eq_true rfl) hC (Nat.le_refl _) (Nat.le_refl _) hc hs (fun j h9 => by cases h9) (fun _ _ => rfl) ?_
      show ab_E w (d + 1) mt_K_mend 55 [.ref kx, .int v1, .ref kx_now_cables] [] (I8, L, ab_RR, n, nc, ns) res
      refine ab_aload_n (i := 0) d_K_mend_55 rfl rfl ?_
      refine ab_getR (ci := 10) (k := 7) (j := kx_ways) d_K_mend_56 v_479 rfl (by decide) (by decide) rfl r_kx_7 ?_
      refine ab_aload_n (i := 2) d_K_mend_59 rfl rfl ?_
      refine ab_aload_n (i := 0) d_K_mend_60 rfl rfl ?_
      refine ab_getR (ci := 10) (k := 6) (j := kx_forest) d_K_mend_61 v_478 rfl (by decide) (by decide) rfl r_kx_6 ?_
      obtain ⟨I10, hC, h⟩ := h
      refine ab_callV (me2 := mt_Ways_trace) (b := kx_ways) (as := [.ref kx_now_cables, .ref kx_forest]) (st := []) (rv := none) (M2 := (I10, L, ab_RR, n, nc, ns)) d_K_mend_64 ce_Ways_trace v_453 v_454 v_455 (by decide) rfl (Nat.le_of_ble_eq_true rfl) hC (Nat.le_refl _) (Nat.le_refl _) hc hs (fun j h9 => by cases h9) (fun _ _ => rfl) ?_
      show ab_E w (d + 1) mt_K_mend 67 [.ref kx, .int v1, .ref kx_now_cables] [] (I10, L, ab_RR, n, nc, ns) res
      refine ab_aload_n (i := 0) d_K_mend_67 rfl rfl ?_
      refine ab_getR (ci := 10) (k := 6) (j := kx_forest) d_K_mend_68 v_478 rfl (by decide) (by decide) rfl r_kx_6 ?_
      refine ab_getI (ci := 2) (k := 4) d_K_mend_71 v_339 rfl (by decide) (by decide) rfl ?_
      exact ab_iret (ty := .int) d_K_mend_74 rfl rfl h
    · have h := h.2 c4
      exact h
theorem q_K_mend_24 {w : ab_Wd} {d n nc ns : Nat} {I : Nat → Nat → Int32} {L : Nat → Nat → Int64} {res : ab_Re} (v1 : Int32) (hc : nc ≤ res.2.2.2.2.2.1) (hs : ns ≤ res.2.2.2.2.2.2)
    (h : ∃ (r1 : Int32) (I2 : Nat → Nat → Int32), ab_C w d mt_K_refuse [.ref kx, .int 1] (I, L, ab_RR, n, nc, ns) (.inl (some (.int r1)), (I2, L, ab_RR, n, nc, ns)) ∧ res = (.inl (some (.int r1)), (I2, L, ab_RR, n, nc, ns))) : ab_E w (d + 1) mt_K_mend 24 [.ref kx, .int v1, .ref kx_now_cables] [] (I, L, ab_RR, n, nc, ns) res := by
  refine ab_aload_n (i := 0) d_K_mend_24 rfl rfl ?_
  refine ab_iconst (v := 1) d_K_mend_25 rfl ?_
  obtain ⟨r1, I2, hC, h⟩ := h
  refine ab_callV (me2 := mt_K_refuse) (b := kx) (as := [.int 1]) (st := []) (rv := (some (.int r1))) (M2 := (I2, L, ab_RR, n, nc, ns)) d_K_mend_26 ce_K_refuse v_574 v_576 v_10 (by decide) rfl (Nat.le_of_ble_eq_true rfl) hC (Nat.le_refl _) (Nat.le_refl _) hc hs (fun j h9 => by cases h9) (fun _ _ => rfl) ?_
  show ab_E w (d + 1) mt_K_mend 29 [.ref kx, .int v1, .ref kx_now_cables] [.int r1] (I2, L, ab_RR, n, nc, ns) res
  exact ab_iret (ty := .int) d_K_mend_29 rfl rfl h
