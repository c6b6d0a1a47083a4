theorem d_K_weakCouples_0 : decode (ab_bc mt_K_weakCouples) 0 = .ok (.aload_n 0, 1) := by decide +kernel
theorem d_K_weakCouples_1 : decode (ab_bc mt_K_weakCouples) 1 = .ok (.invokevirtual 436, 3) := by decide +kernel
theorem d_K_weakCouples_4 : decode (ab_bc mt_K_weakCouples) 4 = .ok (.iconst 0, 1) := by decide +kernel
theorem d_K_weakCouples_5 : decode (ab_bc mt_K_weakCouples) 5 = .ok (.istore_n 1, 1) := by decide +kernel
theorem d_K_weakCouples_6 : decode (ab_bc mt_K_weakCouples) 6 = .ok (.iconst 0, 1) := by decide +kernel
theorem d_K_weakCouples_7 : decode (ab_bc mt_K_weakCouples) 7 = .ok (.istore_n 2, 1) := by decide +kernel
theorem d_K_weakCouples_8 : decode (ab_bc mt_K_weakCouples) 8 = .ok (.iload_n 2, 1) := by decide +kernel
theorem d_K_weakCouples_9 : decode (ab_bc mt_K_weakCouples) 9 = .ok (.aload_n 0, 1) := by decide +kernel
theorem d_K_weakCouples_10 : decode (ab_bc mt_K_weakCouples) 10 = .ok (.getfield 23, 3) := by decide +kernel
theorem d_K_weakCouples_13 : decode (ab_bc mt_K_weakCouples) 13 = .ok (.getfield 110, 3) := by decide +kernel
theorem d_K_weakCouples_16 : decode (ab_bc mt_K_weakCouples) 16 = .ok (.getfield 116, 3) := by decide +kernel
theorem d_K_weakCouples_19 : decode (ab_bc mt_K_weakCouples) 19 = .ok (.if_icmp .ge 45, 3) := by decide +kernel
theorem d_K_weakCouples_22 : decode (ab_bc mt_K_weakCouples) 22 = .ok (.iload_n 2, 1) := by decide +kernel
theorem d_K_weakCouples_23 : decode (ab_bc mt_K_weakCouples) 23 = .ok (.iconst 1, 1) := by decide +kernel
theorem d_K_weakCouples_24 : decode (ab_bc mt_K_weakCouples) 24 = .ok (.iadd, 1) := by decide +kernel
theorem d_K_weakCouples_25 : decode (ab_bc mt_K_weakCouples) 25 = .ok (.istore_n 3, 1) := by decide +kernel
theorem d_K_weakCouples_26 : decode (ab_bc mt_K_weakCouples) 26 = .ok (.iload_n 3, 1) := by decide +kernel
theorem d_K_weakCouples_27 : decode (ab_bc mt_K_weakCouples) 27 = .ok (.aload_n 0, 1) := by decide +kernel
theorem d_K_weakCouples_28 : decode (ab_bc mt_K_weakCouples) 28 = .ok (.getfield 23, 3) := by decide +kernel
theorem d_K_weakCouples_31 : decode (ab_bc mt_K_weakCouples) 31 = .ok (.getfield 110, 3) := by decide +kernel
theorem d_K_weakCouples_34 : decode (ab_bc mt_K_weakCouples) 34 = .ok (.getfield 116, 3) := by decide +kernel
theorem d_K_weakCouples_37 : decode (ab_bc mt_K_weakCouples) 37 = .ok (.if_icmp .ge 21, 3) := by decide +kernel
theorem d_K_weakCouples_40 : decode (ab_bc mt_K_weakCouples) 40 = .ok (.aload_n 0, 1) := by decide +kernel
theorem d_K_weakCouples_41 : decode (ab_bc mt_K_weakCouples) 41 = .ok (.iload_n 2, 1) := by decide +kernel
theorem d_K_weakCouples_42 : decode (ab_bc mt_K_weakCouples) 42 = .ok (.iload_n 3, 1) := by decide +kernel
theorem d_K_weakCouples_43 : decode (ab_bc mt_K_weakCouples) 43 = .ok (.invokevirtual 439, 3) := by decide +kernel
theorem d_K_weakCouples_46 : decode (ab_bc mt_K_weakCouples) 46 = .ok (.ifCond .eq 6, 3) := by decide +kernel
theorem d_K_weakCouples_49 : decode (ab_bc mt_K_weakCouples) 49 = .ok (.iinc 1 1, 3) := by decide +kernel
theorem d_K_weakCouples_52 : decode (ab_bc mt_K_weakCouples) 52 = .ok (.iinc 3 1, 3) := by decide +kernel
theorem d_K_weakCouples_55 : decode (ab_bc mt_K_weakCouples) 55 = .ok (.goto (-29), 3) := by decide +kernel
theorem d_K_weakCouples_58 : decode (ab_bc mt_K_weakCouples) 58 = .ok (.iinc 2 1, 3) := by decide +kernel
theorem d_K_weakCouples_61 : decode (ab_bc mt_K_weakCouples) 61 = .ok (.goto (-53), 3) := by decide +kernel
theorem d_K_weakCouples_64 : decode (ab_bc mt_K_weakCouples) 64 = .ok (.iload_n 1, 1) := by decide +kernel
theorem d_K_weakCouples_65 : decode (ab_bc mt_K_weakCouples) 65 = .ok (.ireturn, 1) := by decide +kernel
-- CableKeeper.weakCouples()I over kx
theorem q_K_weakCouples_0 {w : ab_Wd} {d n nc ns : Nat} {I : Nat → Nat → Int32} {L : Nat → Nat → Int64} {res : ab_Re}  (hc : nc ≤ res.2.2.2.2.2.1) (hs : ns ≤ res.2.2.2.2.2.2)
    (h : ∃ (I2 : Nat → Nat → Int32), ab_C w d mt_K_markRings [.ref kx] (I, L, ab_RR, n, nc, ns) (.inl none, (I2, L, ab_RR, n, nc, ns)) ∧ ab_E w (d + 1) mt_K_weakCouples 8 [.ref kx, .int 0, .int 0, .null] [] (I2, L, ab_RR, n, nc, ns) res) : ab_E w (d + 1) mt_K_weakCouples 0 [.ref kx, .null, .null, .null] [] (I, L, ab_RR, n, nc, ns) res := by
  refine ab_aload_n (i := 0) d_K_weakCouples_0 rfl rfl ?_
  obtain ⟨I2, hC, h⟩ := h
  refine ab_callV (me2 := mt_K_markRings) (b := kx) (as := []) (st := []) (rv := none) (M2 := (I2, L, ab_RR, n, nc, ns)) d_K_weakCouples_1 ce_K_markRings v_988 v_990 v_35 (by decide) rfl (Nat.le_of_ble_eq_true rfl) hC (Nat.le_refl _) (Nat.le_refl _) hc hs (fun j h9 => by cases h9) (fun _ _ => rfl) ?_
  show ab_E w (d + 1) mt_K_weakCouples 4 [.ref kx, .null, .null, .null] [] (I2, L, ab_RR, n, nc, ns) res
  refine ab_iconst (v := 0) d_K_weakCouples_4 rfl ?_
  refine ab_istore_n (i := 1) d_K_weakCouples_5 rfl (by decide) (Or.inr rfl) ?_
  refine ab_iconst (v := 0) d_K_weakCouples_6 rfl ?_
  refine ab_istore_n (i := 2) d_K_weakCouples_7 rfl (by decide) (Or.inr rfl) ?_
  exact h
theorem q_K_weakCouples_8 {w : ab_Wd} {d n nc ns : Nat} {I : Nat → Nat → Int32} {L : Nat → Nat → Int64} {res : ab_Re} (v1 : Int32) (v2 : Int32) (hc : nc ≤ res.2.2.2.2.2.1) (hs : ns ≤ res.2.2.2.2.2.2)
    (h : (((I kx_now_cables 1) ≤ v2 → (res = (.inl (some (.int v1)), (I, L, ab_RR, n, nc, ns)))) ∧ (¬ (I kx_now_cables 1) ≤ v2 → (ab_E w (d + 1) mt_K_weakCouples 26 [.ref kx, .int v1, .int v2, .int (v2 + 1)] [] (I, L, ab_RR, n, nc, ns) res)))) : ab_E w (d + 1) mt_K_weakCouples 8 [.ref kx, .int v1, .int v2, .null] [] (I, L, ab_RR, n, nc, ns) res := by
  refine ab_iload_n (i := 2) d_K_weakCouples_8 rfl rfl ?_
  refine ab_aload_n (i := 0) d_K_weakCouples_9 rfl rfl ?_
  refine ab_getR (ci := 10) (k := 3) (j := kx_now) d_K_weakCouples_10 v_475 rfl (by decide) (by decide) rfl r_kx_3 ?_
  refine ab_getR (ci := 6) (k := 0) (j := kx_now_cables) d_K_weakCouples_13 v_294 rfl (by decide) (by decide) rfl r_kx_now_0 ?_
  refine ab_getI (ci := 1) (k := 1) d_K_weakCouples_16 v_199 rfl (by decide) (by decide) rfl ?_
  refine ab_icmp_ge (tgt := 64) d_K_weakCouples_19 (by decide) (fun c1 => ?_) (fun c1 => ?_)
  · have h := h.1 c1
    refine ab_iload_n (i := 1) d_K_weakCouples_64 rfl rfl ?_
    exact ab_iret (ty := .int) d_K_weakCouples_65 rfl rfl h
  · have h := h.2 c1
    refine ab_iload_n (i := 2) d_K_weakCouples_22 rfl rfl ?_
    refine ab_iconst (v := 1) d_K_weakCouples_23 rfl ?_
    refine ab_iadd d_K_weakCouples_24 ?_
    refine ab_istore_n (i := 3) d_K_weakCouples_25 rfl (by decide) (Or.inr rfl) ?_
    exact h
theorem q_K_weakCouples_26 {w : ab_Wd} {d n nc ns : Nat} {I : Nat → Nat → Int32} {L : Nat → Nat → Int64} {res : ab_Re} (v1 : Int32) (v2 : Int32) (v3 : Int32) (hc : nc ≤ res.2.2.2.2.2.1) (hs : ns ≤ res.2.2.2.2.2.2)
    (h : (((I kx_now_cables 1) ≤ v3 → (ab_E w (d + 1) mt_K_weakCouples 8 [.ref kx, .int v1, .int (v2 + 1), .null] [] (I, L, ab_RR, n, nc, ns) res)) ∧ (¬ (I kx_now_cables 1) ≤ v3 → (∃ (r2 : Int32), ab_C w d mt_K_isWeak [.ref kx, .int v2, .int v3] (I, L, ab_RR, n, nc, ns) (.inl (some (.int r2)), (I, L, ab_RR, n, nc, ns)) ∧ ((r2 = 0 → (ab_E w (d + 1) mt_K_weakCouples 52 [.ref kx, .int v1, .int v2, .int v3] [] (I, L, ab_RR, n, nc, ns) res)) ∧ (¬ r2 = 0 → (ab_E w (d + 1) mt_K_weakCouples 52 [.ref kx, .int (v1 + 1), .int v2, .int v3] [] (I, L, ab_RR, n, nc, ns) res))))))) : ab_E w (d + 1) mt_K_weakCouples 26 [.ref kx, .int v1, .int v2, .int v3] [] (I, L, ab_RR, n, nc, ns) res := by
  refine ab_iload_n (i := 3) d_K_weakCouples_26 rfl rfl ?_
  refine ab_aload_n (i := 0) d_K_weakCouples_27 rfl rfl ?_
  refine ab_getR (ci := 10) (k := 3) (j := kx_now) d_K_weakCouples_28 v_475 rfl (by decide) (by decide) rfl r_kx_3 ?_
  refine ab_getR (ci := 6) (k := 0) (j := kx_now_cables) d_K_weakCouples_31 v_294 rfl (by decide) (by decide) rfl r_kx_now_0 ?_
  refine ab_getI (ci := 1) (k := 1) d_K_weakCouples_34 v_199 rfl (by decide) (by decide) rfl ?_
  refine ab_icmp_ge (tgt := 58) d_K_weakCouples_37 (by decide) (fun c1 => ?_) (fun c1 => ?_)
  · have h := h.1 c1
    refine ab_iinc (i := 2) (v := (v2 + 1)) d_K_weakCouples_58 rfl rfl (by decide) (Or.inr rfl) ?_
    refine ab_goto (tgt := 8) d_K_weakCouples_61 (by decide) ?_
    refine ab_drop 3 ?_
    exact h
  · have h := h.2 c1
    refine ab_aload_n (i := 0) d_K_weakCouples_40 rfl rfl ?_
    refine ab_iload_n (i := 2) d_K_weakCouples_41 rfl rfl ?_
    refine ab_iload_n (i := 3) d_K_weakCouples_42 rfl rfl ?_
    obtain ⟨r2, hC, h⟩ := h
    refine ab_callV (me2 := mt_K_isWeak) (b := kx) (as := [.int v2, .int v3]) (st := []) (rv := (some (.int r2))) (M2 := (I, L, ab_RR, n, nc, ns)) d_K_weakCouples_43 ce_K_isWeak v_1012 v_1014 v_38 (by decide) rfl (Nat.le_of_ble_eq_true rfl) hC (Nat.le_refl _) (Nat.le_refl _) hc hs (fun j h9 => by cases h9) (fun _ _ => rfl) ?_
    show ab_E w (d + 1) mt_K_weakCouples 46 [.ref kx, .int v1, .int v2, .int v3] [.int r2] (I, L, ab_RR, n, nc, ns) res
    refine ab_if_eq (tgt := 52) d_K_weakCouples_46 (by decide) (fun c3 => ?_) (fun c3 => ?_)
    · have h := h.1 c3
      exact h
    · have h := h.2 c3
      refine ab_iinc (i := 1) (v := (v1 + 1)) d_K_weakCouples_49 rfl rfl (by decide) (Or.inr rfl) ?_
      exact h
theorem q_K_weakCouples_52 {w : ab_Wd} {d n nc ns : Nat} {I : Nat → Nat → Int32} {L : Nat → Nat → Int64} {res : ab_Re} (v1 : Int32) (v2 : Int32) (v3 : Int32) (hc : nc ≤ res.2.2.2.2.2.1) (hs : ns ≤ res.2.2.2.2.2.2)
    (h : ab_E w (d + 1) mt_K_weakCouples 26 [.ref kx, .int v1, .int v2, .int (v3 + 1)] [] (I, L, ab_RR, n, nc, ns) res) : ab_E w (d + 1) mt_K_weakCouples 52 [.ref kx, .int v1, .int v2, .int v3] [] (I, L, ab_RR, n, nc, ns) res := by
  refine ab_iinc (i := 3) (v := (v3 + 1)) d_K_weakCouples_52 rfl rfl (by decide) (Or.inr rfl) ?_
  refine ab_goto (tgt := 26) d_K_weakCouples_55 (by decide) ?_
  exact h
theorem d_K_firstWeak_0 : decode (ab_bc mt_K_firstWeak) 0 = .ok (.aload_n 0, 1) := by decide +kernel
theorem d_K_firstWeak_1 : decode (ab_bc mt_K_firstWeak) 1 = .ok (.invokevirtual 436, 3) := by decide +kernel
theorem d_K_firstWeak_4 : decode (ab_bc mt_K_firstWeak) 4 = .ok (.iconst 0, 1) := by decide +kernel
theorem d_K_firstWeak_5 : decode (ab_bc mt_K_firstWeak) 5 = .ok (.istore_n 1, 1) := by decide +kernel
theorem d_K_firstWeak_6 : decode (ab_bc mt_K_firstWeak) 6 = .ok (.iload_n 1, 1) := by decide +kernel
theorem d_K_firstWeak_7 : decode (ab_bc mt_K_firstWeak) 7 = .ok (.aload_n 0, 1) := by decide +kernel
theorem d_K_firstWeak_8 : decode (ab_bc mt_K_firstWeak) 8 = .ok (.getfield 23, 3) := by decide +kernel
theorem d_K_firstWeak_11 : decode (ab_bc mt_K_firstWeak) 11 = .ok (.getfield 110, 3) := by decide +kernel
theorem d_K_firstWeak_14 : decode (ab_bc mt_K_firstWeak) 14 = .ok (.getfield 116, 3) := by decide +kernel
theorem d_K_firstWeak_17 : decode (ab_bc mt_K_firstWeak) 17 = .ok (.if_icmp .ge 49, 3) := by decide +kernel
theorem d_K_firstWeak_20 : decode (ab_bc mt_K_firstWeak) 20 = .ok (.iload_n 1, 1) := by decide +kernel
theorem d_K_firstWeak_21 : decode (ab_bc mt_K_firstWeak) 21 = .ok (.iconst 1, 1) := by decide +kernel
theorem d_K_firstWeak_22 : decode (ab_bc mt_K_firstWeak) 22 = .ok (.iadd, 1) := by decide +kernel
theorem d_K_firstWeak_23 : decode (ab_bc mt_K_firstWeak) 23 = .ok (.istore_n 2, 1) := by decide +kernel
theorem d_K_firstWeak_24 : decode (ab_bc mt_K_firstWeak) 24 = .ok (.iload_n 2, 1) := by decide +kernel
theorem d_K_firstWeak_25 : decode (ab_bc mt_K_firstWeak) 25 = .ok (.aload_n 0, 1) := by decide +kernel
theorem d_K_firstWeak_26 : decode (ab_bc mt_K_firstWeak) 26 = .ok (.getfield 23, 3) := by decide +kernel
theorem d_K_firstWeak_29 : decode (ab_bc mt_K_firstWeak) 29 = .ok (.getfield 110, 3) := by decide +kernel
theorem d_K_firstWeak_32 : decode (ab_bc mt_K_firstWeak) 32 = .ok (.getfield 116, 3) := by decide +kernel
theorem d_K_firstWeak_35 : decode (ab_bc mt_K_firstWeak) 35 = .ok (.if_icmp .ge 25, 3) := by decide +kernel
theorem d_K_firstWeak_38 : decode (ab_bc mt_K_firstWeak) 38 = .ok (.aload_n 0, 1) := by decide +kernel
theorem d_K_firstWeak_39 : decode (ab_bc mt_K_firstWeak) 39 = .ok (.iload_n 1, 1) := by decide +kernel
theorem d_K_firstWeak_40 : decode (ab_bc mt_K_firstWeak) 40 = .ok (.iload_n 2, 1) := by decide +kernel
theorem d_K_firstWeak_41 : decode (ab_bc mt_K_firstWeak) 41 = .ok (.invokevirtual 439, 3) := by decide +kernel
theorem d_K_firstWeak_44 : decode (ab_bc mt_K_firstWeak) 44 = .ok (.ifCond .eq 10, 3) := by decide +kernel
theorem d_K_firstWeak_47 : decode (ab_bc mt_K_firstWeak) 47 = .ok (.bipush 100, 2) := by decide +kernel
theorem d_K_firstWeak_49 : decode (ab_bc mt_K_firstWeak) 49 = .ok (.iload_n 1, 1) := by decide +kernel
theorem d_K_firstWeak_50 : decode (ab_bc mt_K_firstWeak) 50 = .ok (.imul, 1) := by decide +kernel
theorem d_K_firstWeak_51 : decode (ab_bc mt_K_firstWeak) 51 = .ok (.iload_n 2, 1) := by decide +kernel
theorem d_K_firstWeak_52 : decode (ab_bc mt_K_firstWeak) 52 = .ok (.iadd, 1) := by decide +kernel
theorem d_K_firstWeak_53 : decode (ab_bc mt_K_firstWeak) 53 = .ok (.ireturn, 1) := by decide +kernel
theorem d_K_firstWeak_54 : decode (ab_bc mt_K_firstWeak) 54 = .ok (.iinc 2 1, 3) := by decide +kernel
theorem d_K_firstWeak_57 : decode (ab_bc mt_K_firstWeak) 57 = .ok (.goto (-33), 3) := by decide +kernel
theorem d_K_firstWeak_60 : decode (ab_bc mt_K_firstWeak) 60 = .ok (.iinc 1 1, 3) := by decide +kernel
theorem d_K_firstWeak_63 : decode (ab_bc mt_K_firstWeak) 63 = .ok (.goto (-57), 3) := by decide +kernel
theorem d_K_firstWeak_66 : decode (ab_bc mt_K_firstWeak) 66 = .ok (.iconst (-1), 1) := by decide +kernel
theorem d_K_firstWeak_67 : decode (ab_bc mt_K_firstWeak) 67 = .ok (.ireturn, 1) := by decide +kernel
-- CableKeeper.firstWeak()I over kx
theorem q_K_firstWeak_0 {w : ab_Wd} {d n nc ns : Nat} {I : Nat → Nat → Int32} {L : Nat → Nat → Int64} {res : ab_Re}  (hc : nc ≤ res.2.2.2.2.2.1) (hs : ns ≤ res.2.2.2.2.2.2)
    (h : ∃ (I2 : Nat → Nat → Int32), ab_C w d mt_K_markRings [.ref kx] (I, L, ab_RR, n, nc, ns) (.inl none, (I2, L, ab_RR, n, nc, ns)) ∧ ab_E w (d + 1) mt_K_firstWeak 6 [.ref kx, .int 0, .null] [] (I2, L, ab_RR, n, nc, ns) res) : ab_E w (d + 1) mt_K_firstWeak 0 [.ref kx, .null, .null] [] (I, L, ab_RR, n, nc, ns) res := by
  refine ab_aload_n (i := 0) d_K_firstWeak_0 rfl rfl ?_
  obtain ⟨I2, hC, h⟩ := h
  refine ab_callV (me2 := mt_K_markRings) (b := kx) (as := []) (st := []) (rv := none) (M2 := (I2, L, ab_RR, n, nc, ns)) d_K_firstWeak_1 ce_K_markRings v_988 v_990 v_35 (by decide) rfl (Nat.le_of_ble_eq_true rfl) hC (Nat.le_refl _) (Nat.le_refl _) hc hs (fun j h9 => by cases h9) (fun _ _ => rfl) ?_
  show ab_E w (d + 1) mt_K_firstWeak 4 [.ref kx, .null, .null] [] (I2, L, ab_RR, n, nc, ns) res
  refine ab_iconst (v := 0) d_K_firstWeak_4 rfl ?_
  refine ab_istore_n (i := 1) d_K_firstWeak_5 rfl (by decide) (Or.inr rfl) ?_
  exact h
theorem q_K_firstWeak_6 {w : ab_Wd} {d n nc ns : Nat} {I : Nat → Nat → Int32} {L : Nat → Nat → Int64} {res : ab_Re} (v1 : Int32) (hc : nc ≤ res.2.2.2.2.2.1) (hs : ns ≤ res.2.2.2.2.2.2)
    (h : (((I kx_now_cables 1) ≤ v1 → (res = (.inl (some (.int (-1))), (I, L, ab_RR, n, nc, ns)))) ∧ (¬ (I kx_now_cables 1) ≤ v1 → (ab_E w (d + 1) mt_K_firstWeak 24 [.ref kx, .int v1, .int (v1 + 1)] [] (I, L, ab_RR, n, nc, ns) res)))) : ab_E w (d + 1) mt_K_firstWeak 6 [.ref kx, .int v1, .null] [] (I, L, ab_RR, n, nc, ns) res := by
  refine ab_iload_n (i := 1) d_K_firstWeak_6 rfl rfl ?_
  refine ab_aload_n (i := 0) d_K_firstWeak_7 rfl rfl ?_
  refine ab_getR (ci := 10) (k := 3) (j := kx_now) d_K_firstWeak_8 v_475 rfl (by decide) (by decide) rfl r_kx_3 ?_
  refine ab_getR (ci := 6) (k := 0) (j := kx_now_cables) d_K_firstWeak_11 v_294 rfl (by decide) (by decide) rfl r_kx_now_0 ?_
  refine ab_getI (ci := 1) (k := 1) d_K_firstWeak_14 v_199 rfl (by decide) (by decide) rfl ?_
  refine ab_icmp_ge (tgt := 66) d_K_firstWeak_17 (by decide) (fun c1 => ?_) (fun c1 => ?_)
  · have h := h.1 c1
    refine ab_iconst (v := (-1)) d_K_firstWeak_66 rfl ?_
    exact ab_iret (ty := .int) d_K_firstWeak_67 rfl rfl h
  · have h := h.2 c1
    refine ab_iload_n (i := 1) d_K_firstWeak_20 rfl rfl ?_
    refine ab_iconst (v := 1) d_K_firstWeak_21 rfl ?_
    refine ab_iadd d_K_firstWeak_22 ?_
    refine ab_istore_n (i := 2) d_K_firstWeak_23 rfl (by decide) (Or.inr rfl) ?_
    exact h
theorem q_K_firstWeak_24 {w : ab_Wd} {d n nc ns : Nat} {I : Nat → Nat → Int32} {L : Nat → Nat → Int64} {res : ab_Re} (v1 : Int32) (v2 : Int32) (hc : nc ≤ res.2.2.2.2.2.1) (hs : ns ≤ res.2.2.2.2.2.2)
    (h : (((I kx_now_cables 1) ≤ v2 → (ab_E w (d + 1) mt_K_firstWeak 6 [.ref kx, .int (v1 + 1), .null] [] (I, L, ab_RR, n, nc, ns) res)) ∧ (¬ (I kx_now_cables 1) ≤ v2 → (∃ (r2 : Int32), ab_C w d mt_K_isWeak [.ref kx, .int v1, .int v2] (I, L, ab_RR, n, nc, ns) (.inl (some (.int r2)), (I, L, ab_RR, n, nc, ns)) ∧ ((r2 = 0 → (ab_E w (d + 1) mt_K_firstWeak 24 [.ref kx, .int v1, .int (v2 + 1)] [] (I, L, ab_RR, n, nc, ns) res)) ∧ (¬ r2 = 0 → (res = (.inl (some (.int ((100 * v1) + v2))), (I, L, ab_RR, n, nc, ns))))))))) : ab_E w (d + 1) mt_K_firstWeak 24 [.ref kx, .int v1, .int v2] [] (I, L, ab_RR, n, nc, ns) res := by
  refine ab_iload_n (i := 2) d_K_firstWeak_24 rfl rfl ?_
  refine ab_aload_n (i := 0) d_K_firstWeak_25 rfl rfl ?_
  refine ab_getR (ci := 10) (k := 3) (j := kx_now) d_K_firstWeak_26 v_475 rfl (by decide) (by decide) rfl r_kx_3 ?_
  refine ab_getR (ci := 6) (k := 0) (j := kx_now_cables) d_K_firstWeak_29 v_294 rfl (by decide) (by decide) rfl r_kx_now_0 ?_
  refine ab_getI (ci := 1) (k := 1) d_K_firstWeak_32 v_199 rfl (by decide) (by decide) rfl ?_
  refine ab_icmp_ge (tgt := 60) d_K_firstWeak_35 (by decide) (fun c1 => ?_) (fun c1 => ?_)
  · have h := h.1 c1
    refine ab_iinc (i := 1) (v := (v1 + 1)) d_K_firstWeak_60 rfl rfl (by decide) (Or.inr rfl) ?_
    refine ab_goto (tgt := 6) d_K_firstWeak_63 (by decide) ?_
    refine ab_drop 2 ?_
    exact h
  · have h := h.2 c1
    refine ab_aload_n (i := 0) d_K_firstWeak_38 rfl rfl ?_
    refine ab_iload_n (i := 1) d_K_firstWeak_39 rfl rfl ?_
    refine ab_iload_n (i := 2) d_K_firstWeak_40 rfl rfl ?_
    obtain ⟨r2, hC, h⟩ := h
    refine ab_callV (me2 := mt_K_isWeak) (b := kx) (as := [.int v1, .int v2]) (st := []) (rv := (some (.int r2))) (M2 := (I, L, ab_RR, n, nc, ns)) d_K_firstWeak_41 ce_K_isWeak v_1012 v_1014 v_38 (by decide) rfl (Nat.le_of_ble_eq_true rfl) hC (Nat.le_refl _) (Nat.le_refl _) hc hs (fun j h9 => by cases h9) (fun _ _ => rfl) ?_
    show ab_E w (d + 1) mt_K_firstWeak 44 [.ref kx, .int v1, .int v2] [.int r2] (I, L, ab_RR, n, nc, ns) res
    refine ab_if_eq (tgt := 54) d_K_firstWeak_44 (by decide) (fun c3 => ?_) (fun c3 => ?_)
    · have h := h.1 c3
      refine ab_iinc (i := 2) (v := (v2 + 1)) d_K_firstWeak_54 rfl rfl (by decide) (Or.inr rfl) ?_
      refine ab_goto (tgt := 24) d_K_firstWeak_57 (by decide) ?_
      exact h
    · have h := h.2 c3
      refine ab_bipush (v := 100) d_K_firstWeak_47 rfl ?_
      refine ab_iload_n (i := 1) d_K_firstWeak_49 rfl rfl ?_
      refine ab_imul d_K_firstWeak_50 ?_
      refine ab_iload_n (i := 2) d_K_firstWeak_51 rfl rfl ?_
      refine ab_iadd d_K_firstWeak_52 ?_
      exact ab_iret (ty := .int) d_K_firstWeak_53 rfl rfl h
theorem d_K_detours_0 : decode (ab_bc mt_K_detours) 0 = .ok (.aload_n 0, 1) := by decide +kernel
theorem d_K_detours_1 : decode (ab_bc mt_K_detours) 1 = .ok (.getfield 23, 3) := by decide +kernel
theorem d_K_detours_4 : decode (ab_bc mt_K_detours) 4 = .ok (.getfield 110, 3) := by decide +kernel
theorem d_K_detours_7 : decode (ab_bc mt_K_detours) 7 = .ok (.astore_n 1, 1) := by decide +kernel
theorem d_K_detours_8 : decode (ab_bc mt_K_detours) 8 = .ok (.aload_n 0, 1) := by decide +kernel
theorem d_K_detours_9 : decode (ab_bc mt_K_detours) 9 = .ok (.getfield 65, 3) := by decide +kernel
theorem d_K_detours_12 : decode (ab_bc mt_K_detours) 12 = .ok (.aload_n 1, 1) := by decide +kernel
theorem d_K_detours_13 : decode (ab_bc mt_K_detours) 13 = .ok (.invokevirtual 442, 3) := by decide +kernel
theorem d_K_detours_16 : decode (ab_bc mt_K_detours) 16 = .ok (.iconst 0, 1) := by decide +kernel
theorem d_K_detours_17 : decode (ab_bc mt_K_detours) 17 = .ok (.istore_n 2, 1) := by decide +kernel
theorem d_K_detours_18 : decode (ab_bc mt_K_detours) 18 = .ok (.iconst 0, 1) := by decide +kernel
theorem d_K_detours_19 : decode (ab_bc mt_K_detours) 19 = .ok (.istore_n 3, 1) := by decide +kernel
theorem d_K_detours_20 : decode (ab_bc mt_K_detours) 20 = .ok (.iload_n 3, 1) := by decide +kernel
theorem d_K_detours_21 : decode (ab_bc mt_K_detours) 21 = .ok (.aload_n 1, 1) := by decide +kernel
theorem d_K_detours_22 : decode (ab_bc mt_K_detours) 22 = .ok (.getfield 113, 3) := by decide +kernel
theorem d_K_detours_25 : decode (ab_bc mt_K_detours) 25 = .ok (.if_icmp .ge 55, 3) := by decide +kernel
theorem d_K_detours_28 : decode (ab_bc mt_K_detours) 28 = .ok (.iload_n 3, 1) := by decide +kernel
theorem d_K_detours_29 : decode (ab_bc mt_K_detours) 29 = .ok (.iconst 1, 1) := by decide +kernel
theorem d_K_detours_30 : decode (ab_bc mt_K_detours) 30 = .ok (.iadd, 1) := by decide +kernel
theorem d_K_detours_31 : decode (ab_bc mt_K_detours) 31 = .ok (.istore 4, 2) := by decide +kernel
theorem d_K_detours_33 : decode (ab_bc mt_K_detours) 33 = .ok (.iload 4, 2) := by decide +kernel
theorem d_K_detours_35 : decode (ab_bc mt_K_detours) 35 = .ok (.aload_n 1, 1) := by decide +kernel
theorem d_K_detours_36 : decode (ab_bc mt_K_detours) 36 = .ok (.getfield 113, 3) := by decide +kernel
theorem d_K_detours_39 : decode (ab_bc mt_K_detours) 39 = .ok (.if_icmp .ge 35, 3) := by decide +kernel
theorem d_K_detours_42 : decode (ab_bc mt_K_detours) 42 = .ok (.aload_n 0, 1) := by decide +kernel
theorem d_K_detours_43 : decode (ab_bc mt_K_detours) 43 = .ok (.getfield 44, 3) := by decide +kernel
theorem d_K_detours_46 : decode (ab_bc mt_K_detours) 46 = .ok (.iload_n 3, 1) := by decide +kernel
theorem d_K_detours_47 : decode (ab_bc mt_K_detours) 47 = .ok (.iload 4, 2) := by decide +kernel
theorem d_K_detours_49 : decode (ab_bc mt_K_detours) 49 = .ok (.invokevirtual 254, 3) := by decide +kernel
theorem d_K_detours_52 : decode (ab_bc mt_K_detours) 52 = .ok (.aload_n 0, 1) := by decide +kernel
theorem d_K_detours_53 : decode (ab_bc mt_K_detours) 53 = .ok (.getfield 65, 3) := by decide +kernel
theorem d_K_detours_56 : decode (ab_bc mt_K_detours) 56 = .ok (.iload_n 3, 1) := by decide +kernel
theorem d_K_detours_57 : decode (ab_bc mt_K_detours) 57 = .ok (.iload 4, 2) := by decide +kernel
theorem d_K_detours_59 : decode (ab_bc mt_K_detours) 59 = .ok (.invokevirtual 445, 3) := by decide +kernel
theorem d_K_detours_62 : decode (ab_bc mt_K_detours) 62 = .ok (.if_icmp .le 6, 3) := by decide +kernel
theorem d_K_detours_65 : decode (ab_bc mt_K_detours) 65 = .ok (.iinc 2 1, 3) := by decide +kernel
theorem d_K_detours_68 : decode (ab_bc mt_K_detours) 68 = .ok (.iinc 4 1, 3) := by decide +kernel
theorem d_K_detours_71 : decode (ab_bc mt_K_detours) 71 = .ok (.goto (-38), 3) := by decide +kernel
theorem d_K_detours_74 : decode (ab_bc mt_K_detours) 74 = .ok (.iinc 3 1, 3) := by decide +kernel
theorem d_K_detours_77 : decode (ab_bc mt_K_detours) 77 = .ok (.goto (-57), 3) := by decide +kernel
theorem d_K_detours_80 : decode (ab_bc mt_K_detours) 80 = .ok (.iload_n 2, 1) := by decide +kernel
theorem d_K_detours_81 : decode (ab_bc mt_K_detours) 81 = .ok (.ireturn, 1) := by decide +kernel
-- CableKeeper.detours()I over kx
theorem q_K_detours_0 {w : ab_Wd} {d n nc ns : Nat} {I : Nat → Nat → Int32} {L : Nat → Nat → Int64} {res : ab_Re}  (hc : nc ≤ res.2.2.2.2.2.1) (hs : ns ≤ res.2.2.2.2.2.2)
    (h : ∃ (I2 : Nat → Nat → Int32), ab_C w d mt_Roads_measure [.ref kx_roads, .ref kx_now_cables] (I, L, ab_RR, n, nc, ns) (.inl none, (I2, L, ab_RR, n, nc, ns)) ∧ ab_E w (d + 1) mt_K_detours 20 [.ref kx, .ref kx_now_cables, .int 0, .int 0, .null] [] (I2, L, ab_RR, n, nc, ns) res) : ab_E w (d + 1) mt_K_detours 0 [.ref kx, .null, .null, .null, .null] [] (I, L, ab_RR, n, nc, ns) res := by
  refine ab_aload_n (i := 0) d_K_detours_0 rfl rfl ?_
  refine ab_getR (ci := 10) (k := 3) (j := kx_now) d_K_detours_1 v_475 rfl (by decide) (by decide) rfl r_kx_3 ?_
  refine ab_getR (ci := 6) (k := 0) (j := kx_now_cables) d_K_detours_4 v_294 rfl (by decide) (by decide) rfl r_kx_now_0 ?_
  refine ab_astore_n (i := 1) d_K_detours_7 rfl (by decide) (Or.inr rfl) ?_
  refine ab_aload_n (i := 0) d_K_detours_8 rfl rfl ?_
  refine ab_getR (ci := 10) (k := 11) (j := kx_roads) d_K_detours_9 v_483 rfl (by decide) (by decide) rfl r_kx_11 ?_
  refine ab_aload_n (i := 1) d_K_detours_12 rfl rfl ?_
  obtain ⟨I2, hC, h⟩ := h
  refine ab_callV (me2 := mt_Roads_measure) (b := kx_roads) (as := [.ref kx_now_cables]) (st := []) (rv := none) (M2 := (I2, L, ab_RR, n, nc, ns)) d_K_detours_13 ce_Roads_measure v_1029 v_1030 v_1031 (by decide) rfl (Nat.le_of_ble_eq_true rfl) hC (Nat.le_refl _) (Nat.le_refl _) hc hs (fun j h9 => by cases h9) (fun _ _ => rfl) ?_
  show ab_E w (d + 1) mt_K_detours 16 [.ref kx, .ref kx_now_cables, .null, .null, .null] [] (I2, L, ab_RR, n, nc, ns) res
  refine ab_iconst (v := 0) d_K_detours_16 rfl ?_
  refine ab_istore_n (i := 2) d_K_detours_17 rfl (by decide) (Or.inr rfl) ?_
  refine ab_iconst (v := 0) d_K_detours_18 rfl ?_
  refine ab_istore_n (i := 3) d_K_detours_19 rfl (by decide) (Or.inr rfl) ?_
  exact h
theorem q_K_detours_20 {w : ab_Wd} {d n nc ns : Nat} {I : Nat → Nat → Int32} {L : Nat → Nat → Int64} {res : ab_Re} (v2 : Int32) (v3 : Int32) (hc : nc ≤ res.2.2.2.2.2.1) (hs : ns ≤ res.2.2.2.2.2.2)
    (h : (((I kx_now_cables 0) ≤ v3 → (res = (.inl (some (.int v2)), (I, L, ab_RR, n, nc, ns)))) ∧ (¬ (I kx_now_cables 0) ≤ v3 → (ab_E w (d + 1) mt_K_detours 33 [.ref kx, .ref kx_now_cables, .int v2, .int v3, .int (v3 + 1)] [] (I, L, ab_RR, n, nc, ns) res)))) : ab_E w (d + 1) mt_K_detours 20 [.ref kx, .ref kx_now_cables, .int v2, .int v3, .null] [] (I, L, ab_RR, n, nc, ns) res := by
  refine ab_iload_n (i := 3) d_K_detours_20 rfl rfl ?_
  refine ab_aload_n (i := 1) d_K_detours_21 rfl rfl ?_
  refine ab_getI (ci := 1) (k := 0) d_K_detours_22 v_190 rfl (by decide) (by decide) rfl ?_
  refine ab_icmp_ge (tgt := 80) d_K_detours_25 (by decide) (fun c1 => ?_) (fun c1 => ?_)
  · have h := h.1 c1
    refine ab_iload_n (i := 2) d_K_detours_80 rfl rfl ?_
    exact ab_iret (ty := .int) d_K_detours_81 rfl rfl h
  · have h := h.2 c1
    refine ab_iload_n (i := 3) d_K_detours_28 rfl rfl ?_
    refine ab_iconst (v := 1) d_K_detours_29 rfl ?_
    refine ab_iadd d_K_detours_30 ?_
    refine ab_istore (i := 4) d_K_detours_31 (by decide) (Or.inr rfl) ?_
    exact h
theorem q_K_detours_33 {w : ab_Wd} {d n nc ns : Nat} {I : Nat → Nat → Int32} {L : Nat → Nat → Int64} {res : ab_Re} (v2 : Int32) (v3 : Int32) (v4 : Int32) (hc : nc ≤ res.2.2.2.2.2.1) (hs : ns ≤ res.2.2.2.2.2.2)
    (h : (((I kx_now_cables 0) ≤ v4 → (ab_E w (d + 1) mt_K_detours 20 [.ref kx, .ref kx_now_cables, .int v2, .int (v3 + 1), .null] [] (I, L, ab_RR, n, nc, ns) res)) ∧ (¬ (I kx_now_cables 0) ≤ v4 → (∃ (r2 : Int32), ab_C w d mt_Ways_spanOf [.ref kx_ways, .int v3, .int v4] (I, L, ab_RR, n, nc, ns) (.inl (some (.int r2)), (I, L, ab_RR, n, nc, ns)) ∧ ∃ (r3 : Int32), ab_C w d mt_Roads_length [.ref kx_roads, .int v3, .int v4] (I, L, ab_RR, n, nc, ns) (.inl (some (.int r3)), (I, L, ab_RR, n, nc, ns)) ∧ ((r2 ≤ r3 → (ab_E w (d + 1) mt_K_detours 68 [.ref kx, .ref kx_now_cables, .int v2, .int v3, .int v4] [] (I, L, ab_RR, n, nc, ns) res)) ∧ (¬ r2 ≤ r3 → (ab_E w (d + 1) mt_K_detours 68 [.ref kx, .ref kx_now_cables, .int (v2 + 1), .int v3, .int v4] [] (I, L, ab_RR, n, nc, ns) res))))))) : ab_E w (d + 1) mt_K_detours 33 [.ref kx, .ref kx_now_cables, .int v2, .int v3, .int v4] [] (I, L, ab_RR, n, nc, ns) res := by
  refine ab_iload (i := 4) d_K_detours_33 rfl ?_
  refine ab_aload_n (i := 1) d_K_detours_35 rfl rfl ?_
  refine ab_getI (ci := 1) (k := 0) d_K_detours_36 v_190 rfl (by decide) (by decide) rfl ?_
  refine ab_icmp_ge (tgt := 74) d_K_detours_39 (by decide) (fun c1 => ?_) (fun c1 => ?_)
  · have h := h.1 c1
    refine ab_iinc (i := 3) (v := (v3 + 1)) d_K_detours_74 rfl rfl (by decide) (Or.inr rfl) ?_
    refine ab_goto (tgt := 20) d_K_detours_77 (by decide) ?_
    refine ab_drop 4 ?_
    exact h
  · have h := h.2 c1
    refine ab_aload_n (i := 0) d_K_detours_42 rfl rfl ?_
    refine ab_getR (ci := 10) (k := 7) (j := kx_ways) d_K_detours_43 v_479 rfl (by decide) (by decide) rfl r_kx_7 ?_
    refine ab_iload_n (i := 3) d_K_detours_46 rfl rfl ?_
    refine ab_iload (i := 4) d_K_detours_47 rfl ?_
    obtain ⟨r2, hC, h⟩ := h
    refine ab_callV (me2 := mt_Ways_spanOf) (b := kx_ways) (as := [.int v3, .int v4]) (st := []) (rv := (some (.int r2))) (M2 := (I, L, ab_RR, n, nc, ns)) d_K_detours_49 ce_Ways_spanOf v_1000 v_1001 v_1002 (by decide) rfl (Nat.le_of_ble_eq_true rfl) hC (Nat.le_refl _) (Nat.le_refl _) hc hs (fun j h9 => by cases h9) (fun _ _ => rfl) ?_
    show ab_E w (d + 1) mt_K_detours 52 [.ref kx, .ref kx_now_cables, .int v2, .int v3, .int v4] [.int r2] (I, L, ab_RR, n, nc, ns) res
    refine ab_aload_n (i := 0) d_K_detours_52 rfl rfl ?_
    refine ab_getR (ci := 10) (k := 11) (j := kx_roads) d_K_detours_53 v_483 rfl (by decide) (by decide) rfl r_kx_11 ?_
    refine ab_iload_n (i := 3) d_K_detours_56 rfl rfl ?_
    refine ab_iload (i := 4) d_K_detours_57 rfl ?_
    obtain ⟨r3, hC, h⟩ := h
    refine ab_callV (me2 := mt_Roads_length) (b := kx_roads) (as := [.int v3, .int v4]) (st := [.int r2]) (rv := (some (.int r3))) (M2 := (I, L, ab_RR, n, nc, ns)) d_K_detours_59 ce_Roads_length v_1048 v_1045 v_1046 (by decide) rfl (Nat.le_of_ble_eq_true rfl) hC (Nat.le_refl _) (Nat.le_refl _) hc hs (fun j h9 => by cases h9) (fun _ _ => rfl) ?_
    show ab_E w (d + 1) mt_K_detours 62 [.ref kx, .ref kx_now_cables, .int v2, .int v3, .int v4] [.int r3, .int r2] (I, L, ab_RR, n, nc, ns) res
    refine ab_icmp_le (tgt := 68) d_K_detours_62 (by decide) (fun c4 => ?_) (fun c4 => ?_)
    · have h := h.1 c4
      exact h
    · have h := h.2 c4
      refine ab_iinc (i := 2) (v := (v2 + 1)) d_K_detours_65 rfl rfl (by decide) (Or.inr rfl) ?_
      exact h
theorem q_K_detours_68 {w : ab_Wd} {d n nc ns : Nat} {I : Nat → Nat → Int32} {L : Nat → Nat → Int64} {res : ab_Re} (v2 : Int32) (v3 : Int32) (v4 : Int32) (hc : nc ≤ res.2.2.2.2.2.1) (hs : ns ≤ res.2.2.2.2.2.2)
    (h : ab_E w (d + 1) mt_K_detours 33 [.ref kx, .ref kx_now_cables, .int v2, .int v3, .int (v4 + 1)] [] (I, L, ab_RR, n, nc, ns) res) : ab_E w (d + 1) mt_K_detours 68 [.ref kx, .ref kx_now_cables, .int v2, .int v3, .int v4] [] (I, L, ab_RR, n, nc, ns) res := by
  refine ab_iinc (i := 4) (v := (v4 + 1)) d_K_detours_68 rfl rfl (by decide) (Or.inr rfl) ?_
  refine ab_goto (tgt := 33) d_K_detours_71 (by decide) ?_
  exact h
theorem d_K_narrowOf_0 : decode (ab_bc mt_K_narrowOf) 0 = .ok (.iload_n 1, 1) := by decide +kernel
theorem d_K_narrowOf_1 : decode (ab_bc mt_K_narrowOf) 1 = .ok (.iload_n 2, 1) := by decide +kernel
theorem d_K_narrowOf_2 : decode (ab_bc mt_K_narrowOf) 2 = .ok (.if_icmp .ne 5, 3) := by decide +kernel
theorem d_K_narrowOf_5 : decode (ab_bc mt_K_narrowOf) 5 = .ok (.iconst 0, 1) := by decide +kernel
theorem d_K_narrowOf_6 : decode (ab_bc mt_K_narrowOf) 6 = .ok (.ireturn, 1) := by decide +kernel
theorem d_K_narrowOf_7 : decode (ab_bc mt_K_narrowOf) 7 = .ok (.aload_n 0, 1) := by decide +kernel
theorem d_K_narrowOf_8 : decode (ab_bc mt_K_narrowOf) 8 = .ok (.getfield 44, 3) := by decide +kernel
theorem d_K_narrowOf_11 : decode (ab_bc mt_K_narrowOf) 11 = .ok (.iload_n 1, 1) := by decide +kernel
theorem d_K_narrowOf_12 : decode (ab_bc mt_K_narrowOf) 12 = .ok (.iload_n 2, 1) := by decide +kernel
theorem d_K_narrowOf_13 : decode (ab_bc mt_K_narrowOf) 13 = .ok (.invokevirtual 417, 3) := by decide +kernel
theorem d_K_narrowOf_16 : decode (ab_bc mt_K_narrowOf) 16 = .ok (.istore_n 3, 1) := by decide +kernel
theorem d_K_narrowOf_17 : decode (ab_bc mt_K_narrowOf) 17 = .ok (.iload_n 3, 1) := by decide +kernel
theorem d_K_narrowOf_18 : decode (ab_bc mt_K_narrowOf) 18 = .ok (.iconst (-1), 1) := by decide +kernel
theorem d_K_narrowOf_19 : decode (ab_bc mt_K_narrowOf) 19 = .ok (.if_icmp .ne 7, 3) := by decide +kernel
theorem d_K_narrowOf_22 : decode (ab_bc mt_K_narrowOf) 22 = .ok (.iconst (-1), 1) := by decide +kernel
theorem d_K_narrowOf_23 : decode (ab_bc mt_K_narrowOf) 23 = .ok (.goto 15, 3) := by decide +kernel
theorem d_K_narrowOf_26 : decode (ab_bc mt_K_narrowOf) 26 = .ok (.aload_n 0, 1) := by decide +kernel
theorem d_K_narrowOf_27 : decode (ab_bc mt_K_narrowOf) 27 = .ok (.getfield 23, 3) := by decide +kernel
theorem d_K_narrowOf_30 : decode (ab_bc mt_K_narrowOf) 30 = .ok (.getfield 110, 3) := by decide +kernel
theorem d_K_narrowOf_33 : decode (ab_bc mt_K_narrowOf) 33 = .ok (.getfield 195, 3) := by decide +kernel
theorem d_K_narrowOf_36 : decode (ab_bc mt_K_narrowOf) 36 = .ok (.iload_n 3, 1) := by decide +kernel
theorem d_K_narrowOf_37 : decode (ab_bc mt_K_narrowOf) 37 = .ok (.iaload, 1) := by decide +kernel
theorem d_K_narrowOf_38 : decode (ab_bc mt_K_narrowOf) 38 = .ok (.ireturn, 1) := by decide +kernel
-- CableKeeper.narrowOf(II)I over kx
theorem q_K_narrowOf_0 {w : ab_Wd} {d n nc ns : Nat} {I : Nat → Nat → Int32} {L : Nat → Nat → Int64} {res : ab_Re} (v1 : Int32) (v2 : Int32) (hc : nc ≤ res.2.2.2.2.2.1) (hs : ns ≤ res.2.2.2.2.2.2)
    (h : ((¬ v1 = v2 → (∃ (r2 : Int32), ab_C w d mt_Ways_dearestCable [.ref kx_ways, .int v1, .int v2] (I, L, ab_RR, n, nc, ns) (.inl (some (.int r2)), (I, L, ab_RR, n, nc, ns)) ∧ ((¬ r2 = (-1) → ((vp_in r2 24) ∧ ab_E w (d + 1) mt_K_narrowOf 38 [.ref kx, .int v1, .int v2, .int r2] [.int (I kx_now_cables_price r2.toNatClampNeg)] (I, L, ab_RR, n, nc, ns) res)) ∧ (r2 = (-1) → (ab_E w (d + 1) mt_K_narrowOf 38 [.ref kx, .int v1, .int v2, .int r2] [.int (-1)] (I, L, ab_RR, n, nc, ns) res))))) ∧ (v1 = v2 → (res = (.inl (some (.int 0)), (I, L, ab_RR, n, nc, ns)))))) : ab_E w (d + 1) mt_K_narrowOf 0 [.ref kx, .int v1, .int v2, .null] [] (I, L, ab_RR, n, nc, ns) res := by
  refine ab_iload_n (i := 1) d_K_narrowOf_0 rfl rfl ?_
  refine ab_iload_n (i := 2) d_K_narrowOf_1 rfl rfl ?_
  refine ab_icmp_ne (tgt := 7) d_K_narrowOf_2 (by decide) (fun c1 => ?_) (fun c1 => ?_)
  · have h := h.1 c1
    refine ab_aload_n (i := 0) d_K_narrowOf_7 rfl rfl ?_
    refine ab_getR (ci := 10) (k := 7) (j := kx_ways) d_K_narrowOf_8 v_479 rfl (by decide) (by decide) rfl r_kx_7 ?_
    refine ab_iload_n (i := 1) d_K_narrowOf_11 rfl rfl ?_
    refine ab_iload_n (i := 2) d_K_narrowOf_12 rfl rfl ?_
    obtain ⟨r2, hC, h⟩ := h
    refine ab_callV (me2 := mt_Ways_dearestCable) (b := kx_ways) (as := [.int v1, .int v2]) (st := []) (rv := (some (.int r2))) (M2 := (I, L, ab_RR, n, nc, ns)) d_K_narrowOf_13 ce_Ways_dearestCable v_948 v_949 v_950 (by decide) rfl (Nat.le_of_ble_eq_true rfl) hC (Nat.le_refl _) (Nat.le_refl _) hc hs (fun j h9 => by cases h9) (fun _ _ => rfl) ?_
    show ab_E w (d + 1) mt_K_narrowOf 16 [.ref kx, .int v1, .int v2, .null] [.int r2] (I, L, ab_RR, n, nc, ns) res
    refine ab_istore_n (i := 3) d_K_narrowOf_16 rfl (by decide) (Or.inr rfl) ?_
    refine ab_iload_n (i := 3) d_K_narrowOf_17 rfl rfl ?_
    refine ab_iconst (v := (-1)) d_K_narrowOf_18 rfl ?_
    refine ab_icmp_ne (tgt := 26) d_K_narrowOf_19 (by decide) (fun c3 => ?_) (fun c3 => ?_)
    · have h := h.1 c3
      refine ab_aload_n (i := 0) d_K_narrowOf_26 rfl rfl ?_
      refine ab_getR (ci := 10) (k := 3) (j := kx_now) d_K_narrowOf_27 v_475 rfl (by decide) (by decide) rfl r_kx_3 ?_
      refine ab_getR (ci := 6) (k := 0) (j := kx_now_cables) d_K_narrowOf_30 v_294 rfl (by decide) (by decide) rfl r_kx_now_0 ?_
      refine ab_getR (ci := 1) (k := 5) (j := kx_now_cables_price) d_K_narrowOf_33 v_224 rfl (by decide) (by decide) rfl r_kx_now_cables_5 ?_
      refine ab_iload_n (i := 3) d_K_narrowOf_36 rfl rfl ?_
      have g4 := h.1; have h := h.2
      refine ab_iald d_K_narrowOf_37 rfl rfl g4 ?_
      exact h
    · have h := h.2 c3
      refine ab_iconst (v := (-1)) d_K_narrowOf_22 rfl ?_
      refine ab_goto (tgt := 38) d_K_narrowOf_23 (by decide) ?_
      exact h
  · have h := h.2 c1
    refine ab_iconst (v := 0) d_K_narrowOf_5 rfl ?_
    exact ab_iret (ty := .int) d_K_narrowOf_6 rfl rfl h
theorem q_K_narrowOf_38 {w : ab_Wd} {d n nc ns : Nat} {I : Nat → Nat → Int32} {L : Nat → Nat → Int64} {res : ab_Re} (v1 : Int32) (v2 : Int32) (v3 : Int32) (s0 : Int32) (hc : nc ≤ res.2.2.2.2.2.1) (hs : ns ≤ res.2.2.2.2.2.2)
    (h : res = (.inl (some (.int s0)), (I, L, ab_RR, n, nc, ns))) : ab_E w (d + 1) mt_K_narrowOf 38 [.ref kx, .int v1, .int v2, .int v3] [.int s0] (I, L, ab_RR, n, nc, ns) res := by
  exact ab_iret (ty := .int) d_K_narrowOf_38 rfl rfl h
theorem d_K_aloneOf_0 : decode (ab_bc mt_K_aloneOf) 0 = .ok (.aload_n 0, 1) := by decide +kernel
theorem d_K_aloneOf_1 : decode (ab_bc mt_K_aloneOf) 1 = .ok (.getfield 23, 3) := by decide +kernel
theorem d_K_aloneOf_4 : decode (ab_bc mt_K_aloneOf) 4 = .ok (.getfield 110, 3) := by decide +kernel
theorem d_K_aloneOf_7 : decode (ab_bc mt_K_aloneOf) 7 = .ok (.astore_n 2, 1) := by decide +kernel
theorem d_K_aloneOf_8 : decode (ab_bc mt_K_aloneOf) 8 = .ok (.aload_n 2, 1) := by decide +kernel
theorem d_K_aloneOf_9 : decode (ab_bc mt_K_aloneOf) 9 = .ok (.iload_n 1, 1) := by decide +kernel
theorem d_K_aloneOf_10 : decode (ab_bc mt_K_aloneOf) 10 = .ok (.invokevirtual 291, 3) := by decide +kernel
theorem d_K_aloneOf_13 : decode (ab_bc mt_K_aloneOf) 13 = .ok (.istore_n 3, 1) := by decide +kernel
theorem d_K_aloneOf_14 : decode (ab_bc mt_K_aloneOf) 14 = .ok (.aload_n 2, 1) := by decide +kernel
theorem d_K_aloneOf_15 : decode (ab_bc mt_K_aloneOf) 15 = .ok (.iload_n 3, 1) := by decide +kernel
theorem d_K_aloneOf_16 : decode (ab_bc mt_K_aloneOf) 16 = .ok (.aload_n 2, 1) := by decide +kernel
theorem d_K_aloneOf_17 : decode (ab_bc mt_K_aloneOf) 17 = .ok (.getfield 119, 3) := by decide +kernel
theorem d_K_aloneOf_20 : decode (ab_bc mt_K_aloneOf) 20 = .ok (.iand, 1) := by decide +kernel
theorem d_K_aloneOf_21 : decode (ab_bc mt_K_aloneOf) 21 = .ok (.invokevirtual 447, 3) := by decide +kernel
theorem d_K_aloneOf_24 : decode (ab_bc mt_K_aloneOf) 24 = .ok (.istore 4, 2) := by decide +kernel
theorem d_K_aloneOf_26 : decode (ab_bc mt_K_aloneOf) 26 = .ok (.iload 4, 2) := by decide +kernel
theorem d_K_aloneOf_28 : decode (ab_bc mt_K_aloneOf) 28 = .ok (.iconst (-1), 1) := by decide +kernel
theorem d_K_aloneOf_29 : decode (ab_bc mt_K_aloneOf) 29 = .ok (.if_icmp .ne 5, 3) := by decide +kernel
theorem d_K_aloneOf_32 : decode (ab_bc mt_K_aloneOf) 32 = .ok (.iconst (-1), 1) := by decide +kernel
theorem d_K_aloneOf_33 : decode (ab_bc mt_K_aloneOf) 33 = .ok (.ireturn, 1) := by decide +kernel
theorem d_K_aloneOf_34 : decode (ab_bc mt_K_aloneOf) 34 = .ok (.aload_n 0, 1) := by decide +kernel
theorem d_K_aloneOf_35 : decode (ab_bc mt_K_aloneOf) 35 = .ok (.getfield 55, 3) := by decide +kernel
theorem d_K_aloneOf_38 : decode (ab_bc mt_K_aloneOf) 38 = .ok (.aload_n 2, 1) := by decide +kernel
theorem d_K_aloneOf_39 : decode (ab_bc mt_K_aloneOf) 39 = .ok (.aload_n 2, 1) := by decide +kernel
theorem d_K_aloneOf_40 : decode (ab_bc mt_K_aloneOf) 40 = .ok (.getfield 119, 3) := by decide +kernel
theorem d_K_aloneOf_43 : decode (ab_bc mt_K_aloneOf) 43 = .ok (.iload_n 3, 1) := by decide +kernel
theorem d_K_aloneOf_44 : decode (ab_bc mt_K_aloneOf) 44 = .ok (.iconst (-1), 1) := by decide +kernel
theorem d_K_aloneOf_45 : decode (ab_bc mt_K_aloneOf) 45 = .ok (.ixor, 1) := by decide +kernel
theorem d_K_aloneOf_46 : decode (ab_bc mt_K_aloneOf) 46 = .ok (.iand, 1) := by decide +kernel
theorem d_K_aloneOf_47 : decode (ab_bc mt_K_aloneOf) 47 = .ok (.iconst 1, 1) := by decide +kernel
theorem d_K_aloneOf_48 : decode (ab_bc mt_K_aloneOf) 48 = .ok (.iload 4, 2) := by decide +kernel
theorem d_K_aloneOf_50 : decode (ab_bc mt_K_aloneOf) 50 = .ok (.ishl, 1) := by decide +kernel
theorem d_K_aloneOf_51 : decode (ab_bc mt_K_aloneOf) 51 = .ok (.ior, 1) := by decide +kernel
theorem d_K_aloneOf_52 : decode (ab_bc mt_K_aloneOf) 52 = .ok (.invokevirtual 287, 3) := by decide +kernel
theorem d_K_aloneOf_55 : decode (ab_bc mt_K_aloneOf) 55 = .ok (.aload_n 0, 1) := by decide +kernel
theorem d_K_aloneOf_56 : decode (ab_bc mt_K_aloneOf) 56 = .ok (.getfield 55, 3) := by decide +kernel
theorem d_K_aloneOf_59 : decode (ab_bc mt_K_aloneOf) 59 = .ok (.getfield 128, 3) := by decide +kernel
theorem d_K_aloneOf_62 : decode (ab_bc mt_K_aloneOf) 62 = .ok (.aload_n 0, 1) := by decide +kernel
theorem d_K_aloneOf_63 : decode (ab_bc mt_K_aloneOf) 63 = .ok (.getfield 37, 3) := by decide +kernel
theorem d_K_aloneOf_66 : decode (ab_bc mt_K_aloneOf) 66 = .ok (.getfield 128, 3) := by decide +kernel
theorem d_K_aloneOf_69 : decode (ab_bc mt_K_aloneOf) 69 = .ok (.if_icmp .le 7, 3) := by decide +kernel
theorem d_K_aloneOf_72 : decode (ab_bc mt_K_aloneOf) 72 = .ok (.iconst (-1), 1) := by decide +kernel
theorem d_K_aloneOf_73 : decode (ab_bc mt_K_aloneOf) 73 = .ok (.goto 18, 3) := by decide +kernel
theorem d_K_aloneOf_76 : decode (ab_bc mt_K_aloneOf) 76 = .ok (.aload_n 0, 1) := by decide +kernel
theorem d_K_aloneOf_77 : decode (ab_bc mt_K_aloneOf) 77 = .ok (.getfield 55, 3) := by decide +kernel
theorem d_K_aloneOf_80 : decode (ab_bc mt_K_aloneOf) 80 = .ok (.getfield 125, 3) := by decide +kernel
theorem d_K_aloneOf_83 : decode (ab_bc mt_K_aloneOf) 83 = .ok (.aload_n 0, 1) := by decide +kernel
theorem d_K_aloneOf_84 : decode (ab_bc mt_K_aloneOf) 84 = .ok (.getfield 37, 3) := by decide +kernel
theorem d_K_aloneOf_87 : decode (ab_bc mt_K_aloneOf) 87 = .ok (.getfield 125, 3) := by decide +kernel
theorem d_K_aloneOf_90 : decode (ab_bc mt_K_aloneOf) 90 = .ok (.isub, 1) := by decide +kernel
theorem d_K_aloneOf_91 : decode (ab_bc mt_K_aloneOf) 91 = .ok (.ireturn, 1) := by decide +kernel
-- CableKeeper.aloneOf(I)I over kx
theorem q_K_aloneOf_0 {w : ab_Wd} {d n nc ns : Nat} {I : Nat → Nat → Int32} {L : Nat → Nat → Int64} {res : ab_Re} (v1 : Int32) (hc : nc ≤ res.2.2.2.2.2.1) (hs : ns ≤ res.2.2.2.2.2.2)
    (h : ∃ (r1 : Int32), ab_C w d mt_Cables_endingAt [.ref kx_now_cables, .int v1] (I, L, ab_RR, n, nc, ns) (.inl (some (.int r1)), (I, L, ab_RR, n, nc, ns)) ∧ ∃ (r2 : Int32), ab_C w d mt_Cables_cheapestOf [.ref kx_now_cables, .int (r1 &&& (I kx_now_cables 2))] (I, L, ab_RR, n, nc, ns) (.inl (some (.int r2)), (I, L, ab_RR, n, nc, ns)) ∧ ((¬ r2 = (-1) → (∃ (I5 : Nat → Nat → Int32), ab_C w d mt_Forest_grow [.ref kx_trialNet, .ref kx_now_cables, .int (((I kx_now_cables 2) &&& (r1 ^^^ (-1))) ||| ((1 : Int32) <<< (r2 &&& 31)))] (I, L, ab_RR, n, nc, ns) (.inl none, (I5, L, ab_RR, n, nc, ns)) ∧ (((I5 kx_trialNet 4) ≤ (I5 kx_forest 4) → (ab_E w (d + 1) mt_K_aloneOf 91 [.ref kx, .int v1, .ref kx_now_cables, .int r1, .int r2] [.int ((I5 kx_trialNet 3) - (I5 kx_forest 3))] (I5, L, ab_RR, n, nc, ns) res)) ∧ (¬ (I5 kx_trialNet 4) ≤ (I5 kx_forest 4) → (ab_E w (d + 1) mt_K_aloneOf 91 [.ref kx, .int v1, .ref kx_now_cables, .int r1, .int r2] [.int (-1)] (I5, L, ab_RR, n, nc, ns) res))))) ∧ (r2 = (-1) → (res = (.inl (some (.int (-1))), (I, L, ab_RR, n, nc, ns)))))) : ab_E w (d + 1) mt_K_aloneOf 0 [.ref kx, .int v1, .null, .null, .null] [] (I, L, ab_RR, n, nc, ns) res := by
  refine ab_aload_n (i := 0) d_K_aloneOf_0 rfl rfl ?_
  refine ab_getR (ci := 10) (k := 3) (j := kx_now) d_K_aloneOf_1 v_475 rfl (by decide) (by decide) rfl r_kx_3 ?_
  refine ab_getR (ci := 6) (k := 0) (j := kx_now_cables) d_K_aloneOf_4 v_294 rfl (by decide) (by decide) rfl r_kx_now_0 ?_
  refine ab_astore_n (i := 2) d_K_aloneOf_7 rfl (by decide) (Or.inr rfl) ?_
  refine ab_aload_n (i := 2) d_K_aloneOf_8 rfl rfl ?_
  refine ab_iload_n (i := 1) d_K_aloneOf_9 rfl rfl ?_
  obtain ⟨r1, hC, h⟩ := h
  refine ab_callV (me2 := mt_Cables_endingAt) (b := kx_now_cables) (as := [.int v1]) (st := []) (rv := (some (.int r1))) (M2 := (I, L, ab_RR, n, nc, ns)) d_K_aloneOf_10 ce_Cables_endingAt v_960 v_961 v_962 (by decide) rfl (Nat.le_of_ble_eq_true rfl) hC (Nat.le_refl _) (Nat.le_refl _) hc hs (fun j h9 => by cases h9) (fun _ _ => rfl) ?_
  show ab_E w (d + 1) mt_K_aloneOf 13 [.ref kx, .int v1, .ref kx_now_cables, .null, .null] [.int r1] (I, L, ab_RR, n, nc, ns) res
  refine ab_istore_n (i := 3) d_K_aloneOf_13 rfl (by decide) (Or.inr rfl) ?_
  refine ab_aload_n (i := 2) d_K_aloneOf_14 rfl rfl ?_
  refine ab_iload_n (i := 3) d_K_aloneOf_15 rfl rfl ?_
  refine ab_aload_n (i := 2) d_K_aloneOf_16 rfl rfl ?_
  refine ab_getI (ci := 1) (k := 2) d_K_aloneOf_17 v_202 rfl (by decide) (by decide) rfl ?_
  refine ab_iand d_K_aloneOf_20 ?_
  obtain ⟨r2, hC, h⟩ := h
  refine ab_callV (me2 := mt_Cables_cheapestOf) (b := kx_now_cables) (as := [.int (r1 &&& (I kx_now_cables 2))]) (st := []) (rv := (some (.int r2))) (M2 := (I, L, ab_RR, n, nc, ns)) d_K_aloneOf_21 ce_Cables_cheapestOf v_1132 v_1133 v_1134 (by decide) rfl (Nat.le_of_ble_eq_true rfl) hC (Nat.le_refl _) (Nat.le_refl _) hc hs (fun j h9 => by cases h9) (fun _ _ => rfl) ?_
  show ab_E w (d + 1) mt_K_aloneOf 24 [.ref kx, .int v1, .ref kx_now_cables, .int r1, .null] [.int r2] (I, L, ab_RR, n, nc, ns) res
  refine ab_istore (i := 4) d_K_aloneOf_24 (by decide) (Or.inr rfl) ?_
  refine ab_iload (i := 4) d_K_aloneOf_26 rfl ?_
  refine ab_iconst (v := (-1)) d_K_aloneOf_28 rfl ?_
  refine ab_icmp_ne (tgt := 34) d_K_aloneOf_29 (by decide) (fun c3 => ?_) (fun c3 => ?_)
  · have h := h.1 c3
    refine ab_aload_n (i := 0) d_K_aloneOf_34 rfl rfl ?_
    refine ab_getR (ci := 10) (k := 9) (j := kx_trialNet) d_K_aloneOf_35 v_481 rfl (by decide) (by decide) rfl r_kx_9 ?_
    refine ab_aload_n (i := 2) d_K_aloneOf_38 rfl rfl ?_
    refine ab_aload_n (i := 2) d_K_aloneOf_39 rfl rfl ?_
    refine ab_getI (ci := 1) (k := 2) d_K_aloneOf_40 v_202 rfl (by decide) (by decide) rfl ?_
    refine ab_iload_n (i := 3) d_K_aloneOf_43 rfl rfl ?_
    refine ab_iconst (v := (-1)) d_K_aloneOf_44 rfl ?_
    refine ab_ixor d_K_aloneOf_45 ?_
    refine ab_iand d_K_aloneOf_46 ?_
    refine ab_iconst (v := 1) d_K_aloneOf_47 rfl ?_
    refine ab_iload (i := 4) d_K_aloneOf_48 rfl ?_
    refine ab_ishl d_K_aloneOf_50 ?_
    refine ab_ior d_K_aloneOf_51 ?_
    obtain ⟨I5, hC, h⟩ := h
    refine ab_callV (me2 := mt_Forest_grow) (b := kx_trialNet) (as := [.ref kx_now_cables, .int (((I kx_now_cables 2) &&& (r1 ^^^ (-1))) ||| ((1 : Int32) <<< (r2 &&& 31)))]) (st := []) (rv := none) (M2 := (I5, L, ab_RR, n, nc, ns)) d_K_aloneOf_52 ce_Forest_grow v_440 v_441 v_442 (by decide) rfl (Nat.le_of_ble_eq_true rfl) hC (Nat.le_refl _) (Nat.le_refl _) hc hs (fun j h9 => by cases h9) (fun _ _ => rfl) ?_
    show ab_E w (d + 1) mt_K_aloneOf 55 [.ref kx, .int v1, .ref kx_now_cables, .int r1, .int r2] [] (I5, L, ab_RR, n, nc, ns) res
    refine ab_aload_n (i := 0) d_K_aloneOf_55 rfl rfl ?_
    refine ab_getR (ci := 10) (k := 9) (j := kx_trialNet) d_K_aloneOf_56 v_481 rfl (by decide) (by decide) rfl r_kx_9 ?_
    refine ab_getI (ci := 2) (k := 4) d_K_aloneOf_59 v_339 rfl (by decide) (by decide) rfl ?_
    refine ab_aload_n (i := 0) d_K_aloneOf_62 rfl rfl ?_
    refine ab_getR (ci := 10) (k := 6) (j := kx_forest) d_K_aloneOf_63 v_478 rfl (by decide) (by decide) rfl r_kx_6 ?_
    refine ab_getI (ci := 2) (k := 4) d_K_aloneOf_66 v_339 rfl (by decide) (by decide) rfl ?_
    refine ab_icmp_le (tgt := 76) d_K_aloneOf_69 (by decide) (fun c6 => ?_) (fun c6 => ?_)
    · have h := h.1 c6
      refine ab_aload_n (i := 0) d_K_aloneOf_76 rfl rfl ?_
      refine ab_getR (ci := 10) (k := 9) (j := kx_trialNet) d_K_aloneOf_77 v_481 rfl (by decide) (by decide) rfl r_kx_9 ?_
      refine ab_getI (ci := 2) (k := 3) d_K_aloneOf_80 v_337 rfl (by decide) (by decide) rfl ?_
      refine ab_aload_n (i := 0) d_K_aloneOf_83 rfl rfl ?_
      refine ab_getR (ci := 10) (k := 6) (j := kx_forest) d_K_aloneOf_84 v_478 rfl (by decide) (by decide) rfl r_kx_6 ?_
      refine ab_getI (ci := 2) (k := 3) d_K_aloneOf_87 v_337 rfl (by decide) (by decide) rfl ?_
      refine ab_isub d_K_aloneOf_90 ?_
      exact h
    · have h := h.2 c6
      refine ab_iconst (v := (-1)) d_K_aloneOf_72 rfl ?_
      refine ab_goto (tgt := 91) d_K_aloneOf_73 (by decide) ?_
      exact h
  · have h := h.2 c3
    refine ab_iconst (v := (-1)) d_K_aloneOf_32 rfl ?_
    exact ab_iret (ty := .int) d_K_aloneOf_33 rfl rfl h
theorem q_K_aloneOf_91 {w : ab_Wd} {d n nc ns : Nat} {I : Nat → Nat → Int32} {L : Nat → Nat → Int64} {res : ab_Re} (v1 : Int32) (v3 : Int32) (v4 : Int32) (s0 : Int32) (hc : nc ≤ res.2.2.2.2.2.1) (hs : ns ≤ res.2.2.2.2.2.2)
    (h : res = (.inl (some (.int s0)), (I, L, ab_RR, n, nc, ns))) : ab_E w (d + 1) mt_K_aloneOf 91 [.ref kx, .int v1, .ref kx_now_cables, .int v3, .int v4] [.int s0] (I, L, ab_RR, n, nc, ns) res := by
  exact ab_iret (ty := .int) d_K_aloneOf_91 rfl rfl h
theorem d_K_payOf_0 : decode (ab_bc mt_K_payOf) 0 = .ok (.aload_n 0, 1) := by decide +kernel
theorem d_K_payOf_1 : decode (ab_bc mt_K_payOf) 1 = .ok (.getfield 55, 3) := by decide +kernel
theorem d_K_payOf_4 : decode (ab_bc mt_K_payOf) 4 = .ok (.aload_n 0, 1) := by decide +kernel
theorem d_K_payOf_5 : decode (ab_bc mt_K_payOf) 5 = .ok (.getfield 23, 3) := by decide +kernel
theorem d_K_payOf_8 : decode (ab_bc mt_K_payOf) 8 = .ok (.getfield 110, 3) := by decide +kernel
theorem d_K_payOf_11 : decode (ab_bc mt_K_payOf) 11 = .ok (.aload_n 0, 1) := by decide +kernel
theorem d_K_payOf_12 : decode (ab_bc mt_K_payOf) 12 = .ok (.getfield 23, 3) := by decide +kernel
theorem d_K_payOf_15 : decode (ab_bc mt_K_payOf) 15 = .ok (.getfield 110, 3) := by decide +kernel
theorem d_K_payOf_18 : decode (ab_bc mt_K_payOf) 18 = .ok (.getfield 119, 3) := by decide +kernel
theorem d_K_payOf_21 : decode (ab_bc mt_K_payOf) 21 = .ok (.iload_n 1, 1) := by decide +kernel
theorem d_K_payOf_22 : decode (ab_bc mt_K_payOf) 22 = .ok (.iconst (-1), 1) := by decide +kernel
theorem d_K_payOf_23 : decode (ab_bc mt_K_payOf) 23 = .ok (.ixor, 1) := by decide +kernel
theorem d_K_payOf_24 : decode (ab_bc mt_K_payOf) 24 = .ok (.iand, 1) := by decide +kernel
theorem d_K_payOf_25 : decode (ab_bc mt_K_payOf) 25 = .ok (.invokevirtual 287, 3) := by decide +kernel
theorem d_K_payOf_28 : decode (ab_bc mt_K_payOf) 28 = .ok (.aload_n 0, 1) := by decide +kernel
theorem d_K_payOf_29 : decode (ab_bc mt_K_payOf) 29 = .ok (.getfield 55, 3) := by decide +kernel
theorem d_K_payOf_32 : decode (ab_bc mt_K_payOf) 32 = .ok (.getfield 128, 3) := by decide +kernel
theorem d_K_payOf_35 : decode (ab_bc mt_K_payOf) 35 = .ok (.aload_n 0, 1) := by decide +kernel
theorem d_K_payOf_36 : decode (ab_bc mt_K_payOf) 36 = .ok (.getfield 37, 3) := by decide +kernel
theorem d_K_payOf_39 : decode (ab_bc mt_K_payOf) 39 = .ok (.getfield 128, 3) := by decide +kernel
theorem d_K_payOf_42 : decode (ab_bc mt_K_payOf) 42 = .ok (.if_icmp .le 5, 3) := by decide +kernel
theorem d_K_payOf_45 : decode (ab_bc mt_K_payOf) 45 = .ok (.iconst (-1), 1) := by decide +kernel
theorem d_K_payOf_46 : decode (ab_bc mt_K_payOf) 46 = .ok (.ireturn, 1) := by decide +kernel
theorem d_K_payOf_47 : decode (ab_bc mt_K_payOf) 47 = .ok (.aload_n 0, 1) := by decide +kernel
theorem d_K_payOf_48 : decode (ab_bc mt_K_payOf) 48 = .ok (.getfield 55, 3) := by decide +kernel
theorem d_K_payOf_51 : decode (ab_bc mt_K_payOf) 51 = .ok (.getfield 125, 3) := by decide +kernel
theorem d_K_payOf_54 : decode (ab_bc mt_K_payOf) 54 = .ok (.aload_n 0, 1) := by decide +kernel
theorem d_K_payOf_55 : decode (ab_bc mt_K_payOf) 55 = .ok (.getfield 23, 3) := by decide +kernel
theorem d_K_payOf_58 : decode (ab_bc mt_K_payOf) 58 = .ok (.getfield 110, 3) := by decide +kernel
theorem d_K_payOf_61 : decode (ab_bc mt_K_payOf) 61 = .ok (.aload_n 0, 1) := by decide +kernel
theorem d_K_payOf_62 : decode (ab_bc mt_K_payOf) 62 = .ok (.getfield 37, 3) := by decide +kernel
theorem d_K_payOf_65 : decode (ab_bc mt_K_payOf) 65 = .ok (.getfield 122, 3) := by decide +kernel
theorem d_K_payOf_68 : decode (ab_bc mt_K_payOf) 68 = .ok (.iload_n 1, 1) := by decide +kernel
theorem d_K_payOf_69 : decode (ab_bc mt_K_payOf) 69 = .ok (.iconst (-1), 1) := by decide +kernel
theorem d_K_payOf_70 : decode (ab_bc mt_K_payOf) 70 = .ok (.ixor, 1) := by decide +kernel
theorem d_K_payOf_71 : decode (ab_bc mt_K_payOf) 71 = .ok (.iand, 1) := by decide +kernel
theorem d_K_payOf_72 : decode (ab_bc mt_K_payOf) 72 = .ok (.invokevirtual 273, 3) := by decide +kernel
theorem d_K_payOf_75 : decode (ab_bc mt_K_payOf) 75 = .ok (.isub, 1) := by decide +kernel
theorem d_K_payOf_76 : decode (ab_bc mt_K_payOf) 76 = .ok (.ireturn, 1) := by decide +kernel
-- CableKeeper.payOf(I)I over kx
theorem q_K_payOf_0 {w : ab_Wd} {d n nc ns : Nat} {I : Nat → Nat → Int32} {L : Nat → Nat → Int64} {res : ab_Re} (v1 : Int32) (hc : nc ≤ res.2.2.2.2.2.1) (hs : ns ≤ res.2.2.2.2.2.2)
    (h : ∃ (I2 : Nat → Nat → Int32), ab_C w d mt_Forest_grow [.ref kx_trialNet, .ref kx_now_cables, .int ((I kx_now_cables 2) &&& (v1 ^^^ (-1)))] (I, L, ab_RR, n, nc, ns) (.inl none, (I2, L, ab_RR, n, nc, ns)) ∧ (((I2 kx_trialNet 4) ≤ (I2 kx_forest 4) → (∃ (r4 : Int32), ab_C w d mt_Cables_pricesOf [.ref kx_now_cables, .int ((I2 kx_forest 2) &&& (v1 ^^^ (-1)))] (I2, L, ab_RR, n, nc, ns) (.inl (some (.int r4)), (I2, L, ab_RR, n, nc, ns)) ∧ res = (.inl (some (.int ((I2 kx_trialNet 3) - r4))), (I2, L, ab_RR, n, nc, ns)))) ∧ (¬ (I2 kx_trialNet 4) ≤ (I2 kx_forest 4) → (res = (.inl (some (.int (-1))), (I2, L, ab_RR, n, nc, ns)))))) : ab_E w (d + 1) mt_K_payOf 0 [.ref kx, .int v1] [] (I, L, ab_RR, n, nc, ns) res := by
  refine ab_aload_n (i := 0) d_K_payOf_0 rfl rfl ?_
  refine ab_getR (ci := 10) (k := 9) (j := kx_trialNet) d_K_payOf_1 v_481 rfl (by decide) (by decide) rfl r_kx_9 ?_
  refine ab_aload_n (i := 0) d_K_payOf_4 rfl rfl ?_
  refine ab_getR (ci := 10) (k := 3) (j := kx_now) d_K_payOf_5 v_475 rfl (by decide) (by decide) rfl r_kx_3 ?_
  refine ab_getR (ci := 6) (k := 0) (j := kx_now_cables) d_K_payOf_8 v_294 rfl (by decide) (by decide) rfl r_kx_now_0 ?_
  refine ab_aload_n (i := 0) d_K_payOf_11 rfl rfl ?_
  refine ab_getR (ci := 10) (k := 3) (j := kx_now) d_K_payOf_12 v_475 rfl (by decide) (by decide) rfl r_kx_3 ?_
  refine ab_getR (ci := 6) (k := 0) (j := kx_now_cables) d_K_payOf_15 v_294 rfl (by decide) (by decide) rfl r_kx_now_0 ?_
  refine ab_getI (ci := 1) (k := 2) d_K_payOf_18 v_202 rfl (by decide) (by decide) rfl ?_
  refine ab_iload_n (i := 1) d_K_payOf_21 rfl rfl ?_
  refine ab_iconst (v := (-1)) d_K_payOf_22 rfl ?_
  refine ab_ixor d_K_payOf_23 ?_
  refine ab_iand d_K_payOf_24 ?_
  obtain ⟨I2, hC, h⟩ := h
  refine ab_callV (me2 := mt_Forest_grow) (b := kx_trialNet) (as := [.ref kx_now_cables, .int ((I kx_now_cables 2) &&& (v1 ^^^ (-1)))]) (st := []) (rv := none) (M2 := (I2, L, ab_RR, n, nc, ns)) d_K_payOf_25 ce_Forest_grow v_440 v_441 v_442 (by decide) rfl (Nat.le_of_ble_eq_true rfl) hC (Nat.le_refl _) (Nat.le_refl _) hc hs (fun j h9 => by cases h9) (fun _ _ => rfl) ?_
  show ab_E w (d + 1) mt_K_payOf 28 [.ref kx, .int v1] [] (I2, L, ab_RR, n, nc, ns) res
  refine ab_aload_n (i := 0) d_K_payOf_28 rfl rfl ?_
  refine ab_getR (ci := 10) (k := 9) (j := kx_trialNet) d_K_payOf_29 v_481 rfl (by decide) (by decide) rfl r_kx_9 ?_
  refine ab_getI (ci := 2) (k := 4) d_K_payOf_32 v_339 rfl (by decide) (by decide) rfl ?_
  refine ab_aload_n (i := 0) d_K_payOf_35 rfl rfl ?_
  refine ab_getR (ci := 10) (k := 6) (j := kx_forest) d_K_payOf_36 v_478 rfl (by decide) (by decide) rfl r_kx_6 ?_
  refine ab_getI (ci := 2) (k := 4) d_K_payOf_39 v_339 rfl (by decide) (by decide) rfl ?_
  refine ab_icmp_le (tgt := 47) d_K_payOf_42 (by decide) (fun c3 => ?_) (fun c3 => ?_)
  · have h := h.1 c3
    refine ab_aload_n (i := 0) d_K_payOf_47 rfl rfl ?_
    refine ab_getR (ci := 10) (k := 9) (j := kx_trialNet) d_K_payOf_48 v_481 rfl (by decide) (by decide) rfl r_kx_9 ?_
    refine ab_getI (ci := 2) (k := 3) d_K_payOf_51 v_337 rfl (by decide) (by decide) rfl ?_
    refine ab_aload_n (i := 0) d_K_payOf_54 rfl rfl ?_
    refine ab_getR (ci := 10) (k := 3) (j := kx_now) d_K_payOf_55 v_475 rfl (by decide) (by decide) rfl r_kx_3 ?_
    refine ab_getR (ci := 6) (k := 0) (j := kx_now_cables) d_K_payOf_58 v_294 rfl (by decide) (by decide) rfl r_kx_now_0 ?_
    refine ab_aload_n (i := 0) d_K_payOf_61 rfl rfl ?_
    refine ab_getR (ci := 10) (k := 6) (j := kx_forest) d_K_payOf_62 v_478 rfl (by decide) (by decide) rfl r_kx_6 ?_
    refine ab_getI (ci := 2) (k := 2) d_K_payOf_65 v_335 rfl (by decide) (by decide) rfl ?_
    refine ab_iload_n (i := 1) d_K_payOf_68 rfl rfl ?_
    refine ab_iconst (v := (-1)) d_K_payOf_69 rfl ?_
    refine ab_ixor d_K_payOf_70 ?_
    refine ab_iand d_K_payOf_71 ?_
    obtain ⟨r4, hC, h⟩ := h
    refine ab_callV (me2 := mt_Cables_pricesOf) (b := kx_now_cables) (as := [.int ((I2 kx_forest 2) &&& (v1 ^^^ (-1)))]) (st := [.int (I2 kx_trialNet 3)]) (rv := (some (.int r4))) (M2 := (I2, L, ab_RR, n, nc, ns)) d_K_payOf_72 ce_Cables_pricesOf v_1179 v_1180 v_1181 (by decide) rfl (Nat.le_of_ble_eq_true rfl) hC (Nat.le_refl _) (Nat.le_refl _) hc hs (fun j h9 => by cases h9) (fun _ _ => rfl) ?_
    show ab_E w (d + 1) mt_K_payOf 75 [.ref kx, .int v1] [.int r4, .int (I2 kx_trialNet 3)] (I2, L, ab_RR, n, nc, ns) res
    refine ab_isub d_K_payOf_75 ?_
    exact ab_iret (ty := .int) d_K_payOf_76 rfl rfl h
  · have h := h.2 c3
    refine ab_iconst (v := (-1)) d_K_payOf_45 rfl ?_
    exact ab_iret (ty := .int) d_K_payOf_46 rfl rfl h
