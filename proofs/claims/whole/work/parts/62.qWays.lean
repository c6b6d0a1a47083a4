theorem d_Ways_centre_0 : decode (ab_bc mt_Ways_centre) 0 = .ok (.iconst 0, 1) := by decide +kernel
theorem d_Ways_centre_1 : decode (ab_bc mt_Ways_centre) 1 = .ok (.istore_n 1, 1) := by decide +kernel
theorem d_Ways_centre_2 : decode (ab_bc mt_Ways_centre) 2 = .ok (.aload_n 0, 1) := by decide +kernel
theorem d_Ways_centre_3 : decode (ab_bc mt_Ways_centre) 3 = .ok (.iconst 0, 1) := by decide +kernel
theorem d_Ways_centre_4 : decode (ab_bc mt_Ways_centre) 4 = .ok (.invokevirtual 69, 3) := by decide +kernel
theorem d_Ways_centre_7 : decode (ab_bc mt_Ways_centre) 7 = .ok (.istore_n 2, 1) := by decide +kernel
theorem d_Ways_centre_8 : decode (ab_bc mt_Ways_centre) 8 = .ok (.iconst 1, 1) := by decide +kernel
theorem d_Ways_centre_9 : decode (ab_bc mt_Ways_centre) 9 = .ok (.istore_n 3, 1) := by decide +kernel
theorem d_Ways_centre_10 : decode (ab_bc mt_Ways_centre) 10 = .ok (.iload_n 3, 1) := by decide +kernel
theorem d_Ways_centre_11 : decode (ab_bc mt_Ways_centre) 11 = .ok (.aload_n 0, 1) := by decide +kernel
theorem d_Ways_centre_12 : decode (ab_bc mt_Ways_centre) 12 = .ok (.getfield 9, 3) := by decide +kernel
theorem d_Ways_centre_15 : decode (ab_bc mt_Ways_centre) 15 = .ok (.if_icmp .ge 27, 3) := by decide +kernel
theorem d_Ways_centre_18 : decode (ab_bc mt_Ways_centre) 18 = .ok (.aload_n 0, 1) := by decide +kernel
theorem d_Ways_centre_19 : decode (ab_bc mt_Ways_centre) 19 = .ok (.iload_n 3, 1) := by decide +kernel
theorem d_Ways_centre_20 : decode (ab_bc mt_Ways_centre) 20 = .ok (.invokevirtual 69, 3) := by decide +kernel
theorem d_Ways_centre_23 : decode (ab_bc mt_Ways_centre) 23 = .ok (.istore 4, 2) := by decide +kernel
theorem d_Ways_centre_25 : decode (ab_bc mt_Ways_centre) 25 = .ok (.iload 4, 2) := by decide +kernel
theorem d_Ways_centre_27 : decode (ab_bc mt_Ways_centre) 27 = .ok (.iload_n 2, 1) := by decide +kernel
theorem d_Ways_centre_28 : decode (ab_bc mt_Ways_centre) 28 = .ok (.if_icmp .ge 8, 3) := by decide +kernel
theorem d_Ways_centre_31 : decode (ab_bc mt_Ways_centre) 31 = .ok (.iload_n 3, 1) := by decide +kernel
theorem d_Ways_centre_32 : decode (ab_bc mt_Ways_centre) 32 = .ok (.istore_n 1, 1) := by decide +kernel
theorem d_Ways_centre_33 : decode (ab_bc mt_Ways_centre) 33 = .ok (.iload 4, 2) := by decide +kernel
theorem d_Ways_centre_35 : decode (ab_bc mt_Ways_centre) 35 = .ok (.istore_n 2, 1) := by decide +kernel
theorem d_Ways_centre_36 : decode (ab_bc mt_Ways_centre) 36 = .ok (.iinc 3 1, 3) := by decide +kernel
theorem d_Ways_centre_39 : decode (ab_bc mt_Ways_centre) 39 = .ok (.goto (-29), 3) := by decide +kernel
theorem d_Ways_centre_42 : decode (ab_bc mt_Ways_centre) 42 = .ok (.iload_n 1, 1) := by decide +kernel
theorem d_Ways_centre_43 : decode (ab_bc mt_Ways_centre) 43 = .ok (.ireturn, 1) := by decide +kernel
-- CableKeeper$Ways.centre()I over kx_ways
theorem q_Ways_centre_0 {w : ab_Wd} {d n nc ns : Nat} {I : Nat → Nat → Int32} {L : Nat → Nat → Int64} {res : ab_Re}  (hc : nc ≤ res.2.2.2.2.2.1) (hs : ns ≤ res.2.2.2.2.2.2)
    (h : ∃ (r1 : Int32), ab_C w d mt_Ways_farthest [.ref kx_ways, .int 0] (I, L, ab_RR, n, nc, ns) (.inl (some (.int r1)), (I, L, ab_RR, n, nc, ns)) ∧ ab_E w (d + 1) mt_Ways_centre 10 [.ref kx_ways, .int 0, .int r1, .int 1, .null] [] (I, L, ab_RR, n, nc, ns) res) : ab_E w (d + 1) mt_Ways_centre 0 [.ref kx_ways, .null, .null, .null, .null] [] (I, L, ab_RR, n, nc, ns) res := by
  refine ab_iconst (v := 0) d_Ways_centre_0 rfl ?_
  refine ab_istore_n (i := 1) d_Ways_centre_1 rfl (by decide) (Or.inr rfl) ?_
  refine ab_aload_n (i := 0) d_Ways_centre_2 rfl rfl ?_
  refine ab_iconst (v := 0) d_Ways_centre_3 rfl ?_
  obtain ⟨r1, hC, h⟩ := h
  refine ab_callV (me2 := mt_Ways_farthest) (b := kx_ways) (as := [.int 0]) (st := []) (rv := (some (.int r1))) (M2 := (I, L, ab_RR, n, nc, ns)) d_Ways_centre_4 ce_Ways_farthest v_974 v_975 v_976 (by decide) rfl (Nat.le_of_ble_eq_true rfl) hC (Nat.le_refl _) (Nat.le_refl _) hc hs (fun j h9 => by cases h9) (fun _ _ => rfl) ?_
  show ab_E w (d + 1) mt_Ways_centre 7 [.ref kx_ways, .int 0, .null, .null, .null] [.int r1] (I, L, ab_RR, n, nc, ns) res
  refine ab_istore_n (i := 2) d_Ways_centre_7 rfl (by decide) (Or.inr rfl) ?_
  refine ab_iconst (v := 1) d_Ways_centre_8 rfl ?_
  refine ab_istore_n (i := 3) d_Ways_centre_9 rfl (by decide) (Or.inr rfl) ?_
  exact h
theorem q_Ways_centre_10 {w : ab_Wd} {d n nc ns : Nat} {I : Nat → Nat → Int32} {L : Nat → Nat → Int64} {res : ab_Re} (v1 : Int32) (v2 : Int32) (v3 : Int32) (hc : nc ≤ res.2.2.2.2.2.1) (hs : ns ≤ res.2.2.2.2.2.2)
    (h : (((I kx_ways 0) ≤ v3 → (res = (.inl (some (.int v1)), (I, L, ab_RR, n, nc, ns)))) ∧ (¬ (I kx_ways 0) ≤ v3 → (∃ (r2 : Int32), ab_C w d mt_Ways_farthest [.ref kx_ways, .int v3] (I, L, ab_RR, n, nc, ns) (.inl (some (.int r2)), (I, L, ab_RR, n, nc, ns)) ∧ ((v2 ≤ r2 → (ab_E w (d + 1) mt_Ways_centre 36 [.ref kx_ways, .int v1, .int v2, .int v3, .int r2] [] (I, L, ab_RR, n, nc, ns) res)) ∧ (¬ v2 ≤ r2 → (ab_E w (d + 1) mt_Ways_centre 36 [.ref kx_ways, .int v3, .int r2, .int v3, .int r2] [] (I, L, ab_RR, n, nc, ns) res))))))) : ab_E w (d + 1) mt_Ways_centre 10 [.ref kx_ways, .int v1, .int v2, .int v3, .null] [] (I, L, ab_RR, n, nc, ns) res := by
  refine ab_iload_n (i := 3) d_Ways_centre_10 rfl rfl ?_
  refine ab_aload_n (i := 0) d_Ways_centre_11 rfl rfl ?_
  refine ab_getI (ci := 9) (k := 0) d_Ways_centre_12 v_361 rfl (by decide) (by decide) rfl ?_
  refine ab_icmp_ge (tgt := 42) d_Ways_centre_15 (by decide) (fun c1 => ?_) (fun c1 => ?_)
  · have h := h.1 c1
    refine ab_iload_n (i := 1) d_Ways_centre_42 rfl rfl ?_
    exact ab_iret (ty := .int) d_Ways_centre_43 rfl rfl h
  · have h := h.2 c1
    refine ab_aload_n (i := 0) d_Ways_centre_18 rfl rfl ?_
    refine ab_iload_n (i := 3) d_Ways_centre_19 rfl rfl ?_
    obtain ⟨r2, hC, h⟩ := h
    refine ab_callV (me2 := mt_Ways_farthest) (b := kx_ways) (as := [.int v3]) (st := []) (rv := (some (.int r2))) (M2 := (I, L, ab_RR, n, nc, ns)) d_Ways_centre_20 ce_Ways_farthest v_974 v_975 v_976 (by decide) rfl (Nat.le_of_ble_eq_true rfl) hC (Nat.le_refl _) (Nat.le_refl _) hc hs (fun j h9 => by cases h9) (fun _ _ => rfl) ?_
    show ab_E w (d + 1) mt_Ways_centre 23 [.ref kx_ways, .int v1, .int v2, .int v3, .null] [.int r2] (I, L, ab_RR, n, nc, ns) res
    refine ab_istore (i := 4) d_Ways_centre_23 (by decide) (Or.inr rfl) ?_
    refine ab_iload (i := 4) d_Ways_centre_25 rfl ?_
    refine ab_iload_n (i := 2) d_Ways_centre_27 rfl rfl ?_
    refine ab_icmp_ge (tgt := 36) d_Ways_centre_28 (by decide) (fun c3 => ?_) (fun c3 => ?_)
    · have h := h.1 c3
      exact h
    · have h := h.2 c3
      refine ab_iload_n (i := 3) d_Ways_centre_31 rfl rfl ?_
      refine ab_istore_n (i := 1) d_Ways_centre_32 rfl (by decide) (Or.inr rfl) ?_
      refine ab_iload (i := 4) d_Ways_centre_33 rfl ?_
      refine ab_istore_n (i := 2) d_Ways_centre_35 rfl (by decide) (Or.inr rfl) ?_
      exact h
theorem q_Ways_centre_36 {w : ab_Wd} {d n nc ns : Nat} {I : Nat → Nat → Int32} {L : Nat → Nat → Int64} {res : ab_Re} (v1 : Int32) (v2 : Int32) (v3 : Int32) (v4 : Int32) (hc : nc ≤ res.2.2.2.2.2.1) (hs : ns ≤ res.2.2.2.2.2.2)
    (h : ab_E w (d + 1) mt_Ways_centre 10 [.ref kx_ways, .int v1, .int v2, .int (v3 + 1), .null] [] (I, L, ab_RR, n, nc, ns) res) : ab_E w (d + 1) mt_Ways_centre 36 [.ref kx_ways, .int v1, .int v2, .int v3, .int v4] [] (I, L, ab_RR, n, nc, ns) res := by
  refine ab_iinc (i := 3) (v := (v3 + 1)) d_Ways_centre_36 rfl rfl (by decide) (Or.inr rfl) ?_
  refine ab_goto (tgt := 10) d_Ways_centre_39 (by decide) ?_
  refine ab_drop 4 ?_
  exact h
theorem d_Ways_farthest_0 : decode (ab_bc mt_Ways_farthest) 0 = .ok (.iconst 0, 1) := by decide +kernel
theorem d_Ways_farthest_1 : decode (ab_bc mt_Ways_farthest) 1 = .ok (.istore_n 2, 1) := by decide +kernel
theorem d_Ways_farthest_2 : decode (ab_bc mt_Ways_farthest) 2 = .ok (.iconst 0, 1) := by decide +kernel
theorem d_Ways_farthest_3 : decode (ab_bc mt_Ways_farthest) 3 = .ok (.istore_n 3, 1) := by decide +kernel
theorem d_Ways_farthest_4 : decode (ab_bc mt_Ways_farthest) 4 = .ok (.iload_n 3, 1) := by decide +kernel
theorem d_Ways_farthest_5 : decode (ab_bc mt_Ways_farthest) 5 = .ok (.aload_n 0, 1) := by decide +kernel
theorem d_Ways_farthest_6 : decode (ab_bc mt_Ways_farthest) 6 = .ok (.getfield 9, 3) := by decide +kernel
theorem d_Ways_farthest_9 : decode (ab_bc mt_Ways_farthest) 9 = .ok (.if_icmp .ge 24, 3) := by decide +kernel
theorem d_Ways_farthest_12 : decode (ab_bc mt_Ways_farthest) 12 = .ok (.iload_n 2, 1) := by decide +kernel
theorem d_Ways_farthest_13 : decode (ab_bc mt_Ways_farthest) 13 = .ok (.aload_n 0, 1) := by decide +kernel
theorem d_Ways_farthest_14 : decode (ab_bc mt_Ways_farthest) 14 = .ok (.getfield 15, 3) := by decide +kernel
theorem d_Ways_farthest_17 : decode (ab_bc mt_Ways_farthest) 17 = .ok (.iload_n 1, 1) := by decide +kernel
theorem d_Ways_farthest_18 : decode (ab_bc mt_Ways_farthest) 18 = .ok (.iload_n 3, 1) := by decide +kernel
theorem d_Ways_farthest_19 : decode (ab_bc mt_Ways_farthest) 19 = .ok (.invokestatic 28, 3) := by decide +kernel
theorem d_Ways_farthest_22 : decode (ab_bc mt_Ways_farthest) 22 = .ok (.iaload, 1) := by decide +kernel
theorem d_Ways_farthest_23 : decode (ab_bc mt_Ways_farthest) 23 = .ok (.invokestatic 64, 3) := by decide +kernel
theorem d_Ways_farthest_26 : decode (ab_bc mt_Ways_farthest) 26 = .ok (.istore_n 2, 1) := by decide +kernel
theorem d_Ways_farthest_27 : decode (ab_bc mt_Ways_farthest) 27 = .ok (.iinc 3 1, 3) := by decide +kernel
theorem d_Ways_farthest_30 : decode (ab_bc mt_Ways_farthest) 30 = .ok (.goto (-26), 3) := by decide +kernel
theorem d_Ways_farthest_33 : decode (ab_bc mt_Ways_farthest) 33 = .ok (.iload_n 2, 1) := by decide +kernel
theorem d_Ways_farthest_34 : decode (ab_bc mt_Ways_farthest) 34 = .ok (.ireturn, 1) := by decide +kernel
-- CableKeeper$Ways.farthest(I)I over kx_ways
theorem q_Ways_farthest_0 {w : ab_Wd} {d n nc ns : Nat} {I : Nat → Nat → Int32} {L : Nat → Nat → Int64} {res : ab_Re} (v1 : Int32) (hc : nc ≤ res.2.2.2.2.2.1) (hs : ns ≤ res.2.2.2.2.2.2)
    (h : ab_E w (d + 1) mt_Ways_farthest 4 [.ref kx_ways, .int v1, .int 0, .int 0] [] (I, L, ab_RR, n, nc, ns) res) : ab_E w (d + 1) mt_Ways_farthest 0 [.ref kx_ways, .int v1, .null, .null] [] (I, L, ab_RR, n, nc, ns) res := by
  refine ab_iconst (v := 0) d_Ways_farthest_0 rfl ?_
  refine ab_istore_n (i := 2) d_Ways_farthest_1 rfl (by decide) (Or.inr rfl) ?_
  refine ab_iconst (v := 0) d_Ways_farthest_2 rfl ?_
  refine ab_istore_n (i := 3) d_Ways_farthest_3 rfl (by decide) (Or.inr rfl) ?_
  exact h
theorem q_Ways_farthest_4 {w : ab_Wd} {d n nc ns : Nat} {I : Nat → Nat → Int32} {L : Nat → Nat → Int64} {res : ab_Re} (v1 : Int32) (v2 : Int32) (v3 : Int32) (hc : nc ≤ res.2.2.2.2.2.1) (hs : ns ≤ res.2.2.2.2.2.2)
    (h : (((I kx_ways 0) ≤ v3 → (res = (.inl (some (.int v2)), (I, L, ab_RR, n, nc, ns)))) ∧ (¬ (I kx_ways 0) ≤ v3 → (∃ (r2 : Int32), ab_C w d mt_Ways_at [.int v1, .int v3] (I, L, ab_RR, n, nc, ns) (.inl (some (.int r2)), (I, L, ab_RR, n, nc, ns)) ∧ (vp_in r2 100) ∧ ab_E w (d + 1) mt_Ways_farthest 4 [.ref kx_ways, .int v1, .int (ab_max32 v2 (I kx_ways_span r2.toNatClampNeg)), .int (v3 + 1)] [] (I, L, ab_RR, n, nc, ns) res)))) : ab_E w (d + 1) mt_Ways_farthest 4 [.ref kx_ways, .int v1, .int v2, .int v3] [] (I, L, ab_RR, n, nc, ns) res := by
  refine ab_iload_n (i := 3) d_Ways_farthest_4 rfl rfl ?_
  refine ab_aload_n (i := 0) d_Ways_farthest_5 rfl rfl ?_
  refine ab_getI (ci := 9) (k := 0) d_Ways_farthest_6 v_361 rfl (by decide) (by decide) rfl ?_
  refine ab_icmp_ge (tgt := 33) d_Ways_farthest_9 (by decide) (fun c1 => ?_) (fun c1 => ?_)
  · have h := h.1 c1
    refine ab_iload_n (i := 2) d_Ways_farthest_33 rfl rfl ?_
    exact ab_iret (ty := .int) d_Ways_farthest_34 rfl rfl h
  · have h := h.2 c1
    refine ab_iload_n (i := 2) d_Ways_farthest_12 rfl rfl ?_
    refine ab_aload_n (i := 0) d_Ways_farthest_13 rfl rfl ?_
    refine ab_getR (ci := 9) (k := 1) (j := kx_ways_span) d_Ways_farthest_14 v_362 rfl (by decide) (by decide) rfl r_kx_ways_1 ?_
    refine ab_iload_n (i := 1) d_Ways_farthest_17 rfl rfl ?_
    refine ab_iload_n (i := 3) d_Ways_farthest_18 rfl rfl ?_
    obtain ⟨r2, hC, h⟩ := h
    refine ab_callS (me2 := mt_Ways_at) (as := [.int v1, .int v3]) (st := [.ref kx_ways_span, .int v2]) (rv := (some (.int r2))) (M2 := (I, L, ab_RR, n, nc, ns)) d_Ways_farthest_19 ce_Ways_at ⟨v_458, Or.inl v_457⟩ (Nat.le_of_ble_eq_true rfl) hC (Nat.le_refl _) (Nat.le_refl _) hc hs (fun j h9 => by cases h9) (fun _ _ => rfl) ?_
    show ab_E w (d + 1) mt_Ways_farthest 22 [.ref kx_ways, .int v1, .int v2, .int v3] [.int r2, .ref kx_ways_span, .int v2] (I, L, ab_RR, n, nc, ns) res
    have g3 := h.1; have h := h.2
    refine ab_iald d_Ways_farthest_22 rfl rfl g3 ?_
    refine ab_max d_Ways_farthest_23 v_978 v_451 v_150 v_452 (Nat.succ_le_succ (Nat.zero_le _)) (Nat.le_of_ble_eq_true rfl) hc hs ?_
    refine ab_istore_n (i := 2) d_Ways_farthest_26 rfl (by decide) (Or.inr rfl) ?_
    refine ab_iinc (i := 3) (v := (v3 + 1)) d_Ways_farthest_27 rfl rfl (by decide) (Or.inr rfl) ?_
    refine ab_goto (tgt := 4) d_Ways_farthest_30 (by decide) ?_
    exact h
theorem d_Ways_longest_0 : decode (ab_bc mt_Ways_longest) 0 = .ok (.iconst 0, 1) := by decide +kernel
theorem d_Ways_longest_1 : decode (ab_bc mt_Ways_longest) 1 = .ok (.istore_n 1, 1) := by decide +kernel
theorem d_Ways_longest_2 : decode (ab_bc mt_Ways_longest) 2 = .ok (.iconst 0, 1) := by decide +kernel
theorem d_Ways_longest_3 : decode (ab_bc mt_Ways_longest) 3 = .ok (.istore_n 2, 1) := by decide +kernel
theorem d_Ways_longest_4 : decode (ab_bc mt_Ways_longest) 4 = .ok (.iload_n 2, 1) := by decide +kernel
theorem d_Ways_longest_5 : decode (ab_bc mt_Ways_longest) 5 = .ok (.aload_n 0, 1) := by decide +kernel
theorem d_Ways_longest_6 : decode (ab_bc mt_Ways_longest) 6 = .ok (.getfield 9, 3) := by decide +kernel
theorem d_Ways_longest_9 : decode (ab_bc mt_Ways_longest) 9 = .ok (.if_icmp .ge 19, 3) := by decide +kernel
theorem d_Ways_longest_12 : decode (ab_bc mt_Ways_longest) 12 = .ok (.iload_n 1, 1) := by decide +kernel
theorem d_Ways_longest_13 : decode (ab_bc mt_Ways_longest) 13 = .ok (.aload_n 0, 1) := by decide +kernel
theorem d_Ways_longest_14 : decode (ab_bc mt_Ways_longest) 14 = .ok (.iload_n 2, 1) := by decide +kernel
theorem d_Ways_longest_15 : decode (ab_bc mt_Ways_longest) 15 = .ok (.invokevirtual 69, 3) := by decide +kernel
theorem d_Ways_longest_18 : decode (ab_bc mt_Ways_longest) 18 = .ok (.invokestatic 64, 3) := by decide +kernel
theorem d_Ways_longest_21 : decode (ab_bc mt_Ways_longest) 21 = .ok (.istore_n 1, 1) := by decide +kernel
theorem d_Ways_longest_22 : decode (ab_bc mt_Ways_longest) 22 = .ok (.iinc 2 1, 3) := by decide +kernel
theorem d_Ways_longest_25 : decode (ab_bc mt_Ways_longest) 25 = .ok (.goto (-21), 3) := by decide +kernel
theorem d_Ways_longest_28 : decode (ab_bc mt_Ways_longest) 28 = .ok (.iload_n 1, 1) := by decide +kernel
theorem d_Ways_longest_29 : decode (ab_bc mt_Ways_longest) 29 = .ok (.ireturn, 1) := by decide +kernel
-- CableKeeper$Ways.longest()I over kx_ways
theorem q_Ways_longest_0 {w : ab_Wd} {d n nc ns : Nat} {I : Nat → Nat → Int32} {L : Nat → Nat → Int64} {res : ab_Re}  (hc : nc ≤ res.2.2.2.2.2.1) (hs : ns ≤ res.2.2.2.2.2.2)
    (h : ab_E w (d + 1) mt_Ways_longest 4 [.ref kx_ways, .int 0, .int 0] [] (I, L, ab_RR, n, nc, ns) res) : ab_E w (d + 1) mt_Ways_longest 0 [.ref kx_ways, .null, .null] [] (I, L, ab_RR, n, nc, ns) res := by
  refine ab_iconst (v := 0) d_Ways_longest_0 rfl ?_
  refine ab_istore_n (i := 1) d_Ways_longest_1 rfl (by decide) (Or.inr rfl) ?_
  refine ab_iconst (v := 0) d_Ways_longest_2 rfl ?_
  refine ab_istore_n (i := 2) d_Ways_longest_3 rfl (by decide) (Or.inr rfl) ?_
  exact h
theorem q_Ways_longest_4 {w : ab_Wd} {d n nc ns : Nat} {I : Nat → Nat → Int32} {L : Nat → Nat → Int64} {res : ab_Re} (v1 : Int32) (v2 : Int32) (hc : nc ≤ res.2.2.2.2.2.1) (hs : ns ≤ res.2.2.2.2.2.2)
    (h : (((I kx_ways 0) ≤ v2 → (res = (.inl (some (.int v1)), (I, L, ab_RR, n, nc, ns)))) ∧ (¬ (I kx_ways 0) ≤ v2 → (∃ (r2 : Int32), ab_C w d mt_Ways_farthest [.ref kx_ways, .int v2] (I, L, ab_RR, n, nc, ns) (.inl (some (.int r2)), (I, L, ab_RR, n, nc, ns)) ∧ ab_E w (d + 1) mt_Ways_longest 4 [.ref kx_ways, .int (ab_max32 v1 r2), .int (v2 + 1)] [] (I, L, ab_RR, n, nc, ns) res)))) : ab_E w (d + 1) mt_Ways_longest 4 [.ref kx_ways, .int v1, .int v2] [] (I, L, ab_RR, n, nc, ns) res := by
  refine ab_iload_n (i := 2) d_Ways_longest_4 rfl rfl ?_
  refine ab_aload_n (i := 0) d_Ways_longest_5 rfl rfl ?_
  refine ab_getI (ci := 9) (k := 0) d_Ways_longest_6 v_361 rfl (by decide) (by decide) rfl ?_
  refine ab_icmp_ge (tgt := 28) d_Ways_longest_9 (by decide) (fun c1 => ?_) (fun c1 => ?_)
  · have h := h.1 c1
    refine ab_iload_n (i := 1) d_Ways_longest_28 rfl rfl ?_
    exact ab_iret (ty := .int) d_Ways_longest_29 rfl rfl h
  · have h := h.2 c1
    refine ab_iload_n (i := 1) d_Ways_longest_12 rfl rfl ?_
    refine ab_aload_n (i := 0) d_Ways_longest_13 rfl rfl ?_
    refine ab_iload_n (i := 2) d_Ways_longest_14 rfl rfl ?_
    obtain ⟨r2, hC, h⟩ := h
    refine ab_callV (me2 := mt_Ways_farthest) (b := kx_ways) (as := [.int v2]) (st := [.int v1]) (rv := (some (.int r2))) (M2 := (I, L, ab_RR, n, nc, ns)) d_Ways_longest_15 ce_Ways_farthest v_974 v_975 v_976 (by decide) rfl (Nat.le_of_ble_eq_true rfl) hC (Nat.le_refl _) (Nat.le_refl _) hc hs (fun j h9 => by cases h9) (fun _ _ => rfl) ?_
    show ab_E w (d + 1) mt_Ways_longest 18 [.ref kx_ways, .int v1, .int v2] [.int r2, .int v1] (I, L, ab_RR, n, nc, ns) res
    refine ab_max d_Ways_longest_18 v_978 v_451 v_150 v_452 (Nat.succ_le_succ (Nat.zero_le _)) (Nat.le_of_ble_eq_true rfl) hc hs ?_
    refine ab_istore_n (i := 1) d_Ways_longest_21 rfl (by decide) (Or.inr rfl) ?_
    refine ab_iinc (i := 2) (v := (v2 + 1)) d_Ways_longest_22 rfl rfl (by decide) (Or.inr rfl) ?_
    refine ab_goto (tgt := 4) d_Ways_longest_25 (by decide) ?_
    exact h
theorem d_Ways_firstCable_0 : decode (ab_bc mt_Ways_firstCable) 0 = .ok (.aload_n 0, 1) := by decide +kernel
theorem d_Ways_firstCable_1 : decode (ab_bc mt_Ways_firstCable) 1 = .ok (.getfield 22, 3) := by decide +kernel
theorem d_Ways_firstCable_4 : decode (ab_bc mt_Ways_firstCable) 4 = .ok (.iload_n 1, 1) := by decide +kernel
theorem d_Ways_firstCable_5 : decode (ab_bc mt_Ways_firstCable) 5 = .ok (.iload_n 2, 1) := by decide +kernel
theorem d_Ways_firstCable_6 : decode (ab_bc mt_Ways_firstCable) 6 = .ok (.invokestatic 28, 3) := by decide +kernel
theorem d_Ways_firstCable_9 : decode (ab_bc mt_Ways_firstCable) 9 = .ok (.iaload, 1) := by decide +kernel
theorem d_Ways_firstCable_10 : decode (ab_bc mt_Ways_firstCable) 10 = .ok (.ireturn, 1) := by decide +kernel
-- CableKeeper$Ways.firstCable(II)I over kx_ways
theorem q_Ways_firstCable_0 {w : ab_Wd} {d n nc ns : Nat} {I : Nat → Nat → Int32} {L : Nat → Nat → Int64} {res : ab_Re} (v1 : Int32) (v2 : Int32) (hc : nc ≤ res.2.2.2.2.2.1) (hs : ns ≤ res.2.2.2.2.2.2)
    (h : ∃ (r1 : Int32), ab_C w d mt_Ways_at [.int v1, .int v2] (I, L, ab_RR, n, nc, ns) (.inl (some (.int r1)), (I, L, ab_RR, n, nc, ns)) ∧ (vp_in r1 100) ∧ res = (.inl (some (.int (I kx_ways_step r1.toNatClampNeg))), (I, L, ab_RR, n, nc, ns))) : ab_E w (d + 1) mt_Ways_firstCable 0 [.ref kx_ways, .int v1, .int v2] [] (I, L, ab_RR, n, nc, ns) res := by
  refine ab_aload_n (i := 0) d_Ways_firstCable_0 rfl rfl ?_
  refine ab_getR (ci := 9) (k := 3) (j := kx_ways_step) d_Ways_firstCable_1 v_364 rfl (by decide) (by decide) rfl r_kx_ways_3 ?_
  refine ab_iload_n (i := 1) d_Ways_firstCable_4 rfl rfl ?_
  refine ab_iload_n (i := 2) d_Ways_firstCable_5 rfl rfl ?_
  obtain ⟨r1, hC, h⟩ := h
  refine ab_callS (me2 := mt_Ways_at) (as := [.int v1, .int v2]) (st := [.ref kx_ways_step]) (rv := (some (.int r1))) (M2 := (I, L, ab_RR, n, nc, ns)) d_Ways_firstCable_6 ce_Ways_at ⟨v_458, Or.inl v_457⟩ (Nat.le_of_ble_eq_true rfl) hC (Nat.le_refl _) (Nat.le_refl _) hc hs (fun j h9 => by cases h9) (fun _ _ => rfl) ?_
  show ab_E w (d + 1) mt_Ways_firstCable 9 [.ref kx_ways, .int v1, .int v2] [.int r1, .ref kx_ways_step] (I, L, ab_RR, n, nc, ns) res
  have g2 := h.1; have h := h.2
  refine ab_iald d_Ways_firstCable_9 rfl rfl g2 ?_
  exact ab_iret (ty := .int) d_Ways_firstCable_10 rfl rfl h
theorem d_Ways_cablesBetween_0 : decode (ab_bc mt_Ways_cablesBetween) 0 = .ok (.aload_n 0, 1) := by decide +kernel
theorem d_Ways_cablesBetween_1 : decode (ab_bc mt_Ways_cablesBetween) 1 = .ok (.getfield 19, 3) := by decide +kernel
theorem d_Ways_cablesBetween_4 : decode (ab_bc mt_Ways_cablesBetween) 4 = .ok (.iload_n 1, 1) := by decide +kernel
theorem d_Ways_cablesBetween_5 : decode (ab_bc mt_Ways_cablesBetween) 5 = .ok (.iload_n 2, 1) := by decide +kernel
theorem d_Ways_cablesBetween_6 : decode (ab_bc mt_Ways_cablesBetween) 6 = .ok (.invokestatic 28, 3) := by decide +kernel
theorem d_Ways_cablesBetween_9 : decode (ab_bc mt_Ways_cablesBetween) 9 = .ok (.iaload, 1) := by decide +kernel
theorem d_Ways_cablesBetween_10 : decode (ab_bc mt_Ways_cablesBetween) 10 = .ok (.ireturn, 1) := by decide +kernel
-- CableKeeper$Ways.cablesBetween(II)I over kx_ways
theorem q_Ways_cablesBetween_0 {w : ab_Wd} {d n nc ns : Nat} {I : Nat → Nat → Int32} {L : Nat → Nat → Int64} {res : ab_Re} (v1 : Int32) (v2 : Int32) (hc : nc ≤ res.2.2.2.2.2.1) (hs : ns ≤ res.2.2.2.2.2.2)
    (h : ∃ (r1 : Int32), ab_C w d mt_Ways_at [.int v1, .int v2] (I, L, ab_RR, n, nc, ns) (.inl (some (.int r1)), (I, L, ab_RR, n, nc, ns)) ∧ (vp_in r1 100) ∧ res = (.inl (some (.int (I kx_ways_hops r1.toNatClampNeg))), (I, L, ab_RR, n, nc, ns))) : ab_E w (d + 1) mt_Ways_cablesBetween 0 [.ref kx_ways, .int v1, .int v2] [] (I, L, ab_RR, n, nc, ns) res := by
  refine ab_aload_n (i := 0) d_Ways_cablesBetween_0 rfl rfl ?_
  refine ab_getR (ci := 9) (k := 2) (j := kx_ways_hops) d_Ways_cablesBetween_1 v_363 rfl (by decide) (by decide) rfl r_kx_ways_2 ?_
  refine ab_iload_n (i := 1) d_Ways_cablesBetween_4 rfl rfl ?_
  refine ab_iload_n (i := 2) d_Ways_cablesBetween_5 rfl rfl ?_
  obtain ⟨r1, hC, h⟩ := h
  refine ab_callS (me2 := mt_Ways_at) (as := [.int v1, .int v2]) (st := [.ref kx_ways_hops]) (rv := (some (.int r1))) (M2 := (I, L, ab_RR, n, nc, ns)) d_Ways_cablesBetween_6 ce_Ways_at ⟨v_458, Or.inl v_457⟩ (Nat.le_of_ble_eq_true rfl) hC (Nat.le_refl _) (Nat.le_refl _) hc hs (fun j h9 => by cases h9) (fun _ _ => rfl) ?_
  show ab_E w (d + 1) mt_Ways_cablesBetween 9 [.ref kx_ways, .int v1, .int v2] [.int r1, .ref kx_ways_hops] (I, L, ab_RR, n, nc, ns) res
  have g2 := h.1; have h := h.2
  refine ab_iald d_Ways_cablesBetween_9 rfl rfl g2 ?_
  exact ab_iret (ty := .int) d_Ways_cablesBetween_10 rfl rfl h
theorem d_Ways_spanOf_0 : decode (ab_bc mt_Ways_spanOf) 0 = .ok (.aload_n 0, 1) := by decide +kernel
theorem d_Ways_spanOf_1 : decode (ab_bc mt_Ways_spanOf) 1 = .ok (.getfield 15, 3) := by decide +kernel
theorem d_Ways_spanOf_4 : decode (ab_bc mt_Ways_spanOf) 4 = .ok (.iload_n 1, 1) := by decide +kernel
theorem d_Ways_spanOf_5 : decode (ab_bc mt_Ways_spanOf) 5 = .ok (.iload_n 2, 1) := by decide +kernel
theorem d_Ways_spanOf_6 : decode (ab_bc mt_Ways_spanOf) 6 = .ok (.invokestatic 28, 3) := by decide +kernel
theorem d_Ways_spanOf_9 : decode (ab_bc mt_Ways_spanOf) 9 = .ok (.iaload, 1) := by decide +kernel
theorem d_Ways_spanOf_10 : decode (ab_bc mt_Ways_spanOf) 10 = .ok (.ireturn, 1) := by decide +kernel
-- CableKeeper$Ways.spanOf(II)I over kx_ways
theorem q_Ways_spanOf_0 {w : ab_Wd} {d n nc ns : Nat} {I : Nat → Nat → Int32} {L : Nat → Nat → Int64} {res : ab_Re} (v1 : Int32) (v2 : Int32) (hc : nc ≤ res.2.2.2.2.2.1) (hs : ns ≤ res.2.2.2.2.2.2)
    (h : ∃ (r1 : Int32), ab_C w d mt_Ways_at [.int v1, .int v2] (I, L, ab_RR, n, nc, ns) (.inl (some (.int r1)), (I, L, ab_RR, n, nc, ns)) ∧ (vp_in r1 100) ∧ res = (.inl (some (.int (I kx_ways_span r1.toNatClampNeg))), (I, L, ab_RR, n, nc, ns))) : ab_E w (d + 1) mt_Ways_spanOf 0 [.ref kx_ways, .int v1, .int v2] [] (I, L, ab_RR, n, nc, ns) res := by
  refine ab_aload_n (i := 0) d_Ways_spanOf_0 rfl rfl ?_
  refine ab_getR (ci := 9) (k := 1) (j := kx_ways_span) d_Ways_spanOf_1 v_362 rfl (by decide) (by decide) rfl r_kx_ways_1 ?_
  refine ab_iload_n (i := 1) d_Ways_spanOf_4 rfl rfl ?_
  refine ab_iload_n (i := 2) d_Ways_spanOf_5 rfl rfl ?_
  obtain ⟨r1, hC, h⟩ := h
  refine ab_callS (me2 := mt_Ways_at) (as := [.int v1, .int v2]) (st := [.ref kx_ways_span]) (rv := (some (.int r1))) (M2 := (I, L, ab_RR, n, nc, ns)) d_Ways_spanOf_6 ce_Ways_at ⟨v_458, Or.inl v_457⟩ (Nat.le_of_ble_eq_true rfl) hC (Nat.le_refl _) (Nat.le_refl _) hc hs (fun j h9 => by cases h9) (fun _ _ => rfl) ?_
  show ab_E w (d + 1) mt_Ways_spanOf 9 [.ref kx_ways, .int v1, .int v2] [.int r1, .ref kx_ways_span] (I, L, ab_RR, n, nc, ns) res
  have g2 := h.1; have h := h.2
  refine ab_iald d_Ways_spanOf_9 rfl rfl g2 ?_
  exact ab_iret (ty := .int) d_Ways_spanOf_10 rfl rfl h
theorem d_Ways_trace_0 : decode (ab_bc mt_Ways_trace) 0 = .ok (.aload_n 0, 1) := by decide +kernel
theorem d_Ways_trace_1 : decode (ab_bc mt_Ways_trace) 1 = .ok (.aload_n 1, 1) := by decide +kernel
theorem d_Ways_trace_2 : decode (ab_bc mt_Ways_trace) 2 = .ok (.getfield 32, 3) := by decide +kernel
theorem d_Ways_trace_5 : decode (ab_bc mt_Ways_trace) 5 = .ok (.putfield 9, 3) := by decide +kernel
theorem d_Ways_trace_8 : decode (ab_bc mt_Ways_trace) 8 = .ok (.iconst 0, 1) := by decide +kernel
theorem d_Ways_trace_9 : decode (ab_bc mt_Ways_trace) 9 = .ok (.istore_n 3, 1) := by decide +kernel
theorem d_Ways_trace_10 : decode (ab_bc mt_Ways_trace) 10 = .ok (.iload_n 3, 1) := by decide +kernel
theorem d_Ways_trace_11 : decode (ab_bc mt_Ways_trace) 11 = .ok (.aload_n 0, 1) := by decide +kernel
theorem d_Ways_trace_12 : decode (ab_bc mt_Ways_trace) 12 = .ok (.getfield 15, 3) := by decide +kernel
theorem d_Ways_trace_15 : decode (ab_bc mt_Ways_trace) 15 = .ok (.arraylength, 1) := by decide +kernel
theorem d_Ways_trace_16 : decode (ab_bc mt_Ways_trace) 16 = .ok (.if_icmp .ge 37, 3) := by decide +kernel
theorem d_Ways_trace_19 : decode (ab_bc mt_Ways_trace) 19 = .ok (.aload_n 0, 1) := by decide +kernel
theorem d_Ways_trace_20 : decode (ab_bc mt_Ways_trace) 20 = .ok (.getfield 15, 3) := by decide +kernel
theorem d_Ways_trace_23 : decode (ab_bc mt_Ways_trace) 23 = .ok (.iload_n 3, 1) := by decide +kernel
theorem d_Ways_trace_24 : decode (ab_bc mt_Ways_trace) 24 = .ok (.iconst (-1), 1) := by decide +kernel
theorem d_Ways_trace_25 : decode (ab_bc mt_Ways_trace) 25 = .ok (.iastore, 1) := by decide +kernel
theorem d_Ways_trace_26 : decode (ab_bc mt_Ways_trace) 26 = .ok (.aload_n 0, 1) := by decide +kernel
theorem d_Ways_trace_27 : decode (ab_bc mt_Ways_trace) 27 = .ok (.getfield 19, 3) := by decide +kernel
theorem d_Ways_trace_30 : decode (ab_bc mt_Ways_trace) 30 = .ok (.iload_n 3, 1) := by decide +kernel
theorem d_Ways_trace_31 : decode (ab_bc mt_Ways_trace) 31 = .ok (.iconst (-1), 1) := by decide +kernel
theorem d_Ways_trace_32 : decode (ab_bc mt_Ways_trace) 32 = .ok (.iastore, 1) := by decide +kernel
theorem d_Ways_trace_33 : decode (ab_bc mt_Ways_trace) 33 = .ok (.aload_n 0, 1) := by decide +kernel
theorem d_Ways_trace_34 : decode (ab_bc mt_Ways_trace) 34 = .ok (.getfield 22, 3) := by decide +kernel
theorem d_Ways_trace_37 : decode (ab_bc mt_Ways_trace) 37 = .ok (.iload_n 3, 1) := by decide +kernel
theorem d_Ways_trace_38 : decode (ab_bc mt_Ways_trace) 38 = .ok (.iconst (-1), 1) := by decide +kernel
theorem d_Ways_trace_39 : decode (ab_bc mt_Ways_trace) 39 = .ok (.iastore, 1) := by decide +kernel
theorem d_Ways_trace_40 : decode (ab_bc mt_Ways_trace) 40 = .ok (.aload_n 0, 1) := by decide +kernel
theorem d_Ways_trace_41 : decode (ab_bc mt_Ways_trace) 41 = .ok (.getfield 25, 3) := by decide +kernel
theorem d_Ways_trace_44 : decode (ab_bc mt_Ways_trace) 44 = .ok (.iload_n 3, 1) := by decide +kernel
theorem d_Ways_trace_45 : decode (ab_bc mt_Ways_trace) 45 = .ok (.iconst (-1), 1) := by decide +kernel
theorem d_Ways_trace_46 : decode (ab_bc mt_Ways_trace) 46 = .ok (.iastore, 1) := by decide +kernel
theorem d_Ways_trace_47 : decode (ab_bc mt_Ways_trace) 47 = .ok (.iinc 3 1, 3) := by decide +kernel
theorem d_Ways_trace_50 : decode (ab_bc mt_Ways_trace) 50 = .ok (.goto (-40), 3) := by decide +kernel
theorem d_Ways_trace_53 : decode (ab_bc mt_Ways_trace) 53 = .ok (.iconst 0, 1) := by decide +kernel
theorem d_Ways_trace_54 : decode (ab_bc mt_Ways_trace) 54 = .ok (.istore_n 3, 1) := by decide +kernel
theorem d_Ways_trace_55 : decode (ab_bc mt_Ways_trace) 55 = .ok (.iload_n 3, 1) := by decide +kernel
theorem d_Ways_trace_56 : decode (ab_bc mt_Ways_trace) 56 = .ok (.aload_n 0, 1) := by decide +kernel
theorem d_Ways_trace_57 : decode (ab_bc mt_Ways_trace) 57 = .ok (.getfield 9, 3) := by decide +kernel
theorem d_Ways_trace_60 : decode (ab_bc mt_Ways_trace) 60 = .ok (.if_icmp .ge 31, 3) := by decide +kernel
theorem d_Ways_trace_63 : decode (ab_bc mt_Ways_trace) 63 = .ok (.aload_n 0, 1) := by decide +kernel
theorem d_Ways_trace_64 : decode (ab_bc mt_Ways_trace) 64 = .ok (.getfield 15, 3) := by decide +kernel
theorem d_Ways_trace_67 : decode (ab_bc mt_Ways_trace) 67 = .ok (.iload_n 3, 1) := by decide +kernel
theorem d_Ways_trace_68 : decode (ab_bc mt_Ways_trace) 68 = .ok (.iload_n 3, 1) := by decide +kernel
theorem d_Ways_trace_69 : decode (ab_bc mt_Ways_trace) 69 = .ok (.invokestatic 28, 3) := by decide +kernel
theorem d_Ways_trace_72 : decode (ab_bc mt_Ways_trace) 72 = .ok (.iconst 0, 1) := by decide +kernel
theorem d_Ways_trace_73 : decode (ab_bc mt_Ways_trace) 73 = .ok (.iastore, 1) := by decide +kernel
theorem d_Ways_trace_74 : decode (ab_bc mt_Ways_trace) 74 = .ok (.aload_n 0, 1) := by decide +kernel
theorem d_Ways_trace_75 : decode (ab_bc mt_Ways_trace) 75 = .ok (.getfield 19, 3) := by decide +kernel
theorem d_Ways_trace_78 : decode (ab_bc mt_Ways_trace) 78 = .ok (.iload_n 3, 1) := by decide +kernel
theorem d_Ways_trace_79 : decode (ab_bc mt_Ways_trace) 79 = .ok (.iload_n 3, 1) := by decide +kernel
theorem d_Ways_trace_80 : decode (ab_bc mt_Ways_trace) 80 = .ok (.invokestatic 28, 3) := by decide +kernel
theorem d_Ways_trace_83 : decode (ab_bc mt_Ways_trace) 83 = .ok (.iconst 0, 1) := by decide +kernel
theorem d_Ways_trace_84 : decode (ab_bc mt_Ways_trace) 84 = .ok (.iastore, 1) := by decide +kernel
theorem d_Ways_trace_85 : decode (ab_bc mt_Ways_trace) 85 = .ok (.iinc 3 1, 3) := by decide +kernel
theorem d_Ways_trace_88 : decode (ab_bc mt_Ways_trace) 88 = .ok (.goto (-33), 3) := by decide +kernel
theorem d_Ways_trace_91 : decode (ab_bc mt_Ways_trace) 91 = .ok (.iconst 0, 1) := by decide +kernel
theorem d_Ways_trace_92 : decode (ab_bc mt_Ways_trace) 92 = .ok (.istore_n 3, 1) := by decide +kernel
theorem d_Ways_trace_93 : decode (ab_bc mt_Ways_trace) 93 = .ok (.iload_n 3, 1) := by decide +kernel
theorem d_Ways_trace_94 : decode (ab_bc mt_Ways_trace) 94 = .ok (.aload_n 2, 1) := by decide +kernel
theorem d_Ways_trace_95 : decode (ab_bc mt_Ways_trace) 95 = .ok (.getfield 35, 3) := by decide +kernel
theorem d_Ways_trace_98 : decode (ab_bc mt_Ways_trace) 98 = .ok (.if_icmp .ge 20, 3) := by decide +kernel
theorem d_Ways_trace_101 : decode (ab_bc mt_Ways_trace) 101 = .ok (.aload_n 0, 1) := by decide +kernel
theorem d_Ways_trace_102 : decode (ab_bc mt_Ways_trace) 102 = .ok (.aload_n 1, 1) := by decide +kernel
theorem d_Ways_trace_103 : decode (ab_bc mt_Ways_trace) 103 = .ok (.aload_n 2, 1) := by decide +kernel
theorem d_Ways_trace_104 : decode (ab_bc mt_Ways_trace) 104 = .ok (.getfield 40, 3) := by decide +kernel
theorem d_Ways_trace_107 : decode (ab_bc mt_Ways_trace) 107 = .ok (.iload_n 3, 1) := by decide +kernel
theorem d_Ways_trace_108 : decode (ab_bc mt_Ways_trace) 108 = .ok (.iaload, 1) := by decide +kernel
theorem d_Ways_trace_109 : decode (ab_bc mt_Ways_trace) 109 = .ok (.invokevirtual 43, 3) := by decide +kernel
theorem d_Ways_trace_112 : decode (ab_bc mt_Ways_trace) 112 = .ok (.iinc 3 1, 3) := by decide +kernel
theorem d_Ways_trace_115 : decode (ab_bc mt_Ways_trace) 115 = .ok (.goto (-22), 3) := by decide +kernel
theorem d_Ways_trace_118 : decode (ab_bc mt_Ways_trace) 118 = .ok (.return_, 1) := by decide +kernel
-- CableKeeper$Ways.trace(LCableKeeper$Cables;LCableKeeper$Forest;)V over kx_ways, kx_now_cables, kx_forest
theorem q_Ways_trace_0 {w : ab_Wd} {d n nc ns : Nat} {I : Nat → Nat → Int32} {L : Nat → Nat → Int64} {res : ab_Re}  (hc : nc ≤ res.2.2.2.2.2.1) (hs : ns ≤ res.2.2.2.2.2.2)
    (h : ab_E w (d + 1) mt_Ways_trace 10 [.ref kx_ways, .ref kx_now_cables, .ref kx_forest, .int 0] [] ((ab_up I kx_ways 0 (I kx_now_cables 0)), L, ab_RR, n, nc, ns) res) : ab_E w (d + 1) mt_Ways_trace 0 [.ref kx_ways, .ref kx_now_cables, .ref kx_forest, .null] [] (I, L, ab_RR, n, nc, ns) res := by
  refine ab_aload_n (i := 0) d_Ways_trace_0 rfl rfl ?_
  refine ab_aload_n (i := 1) d_Ways_trace_1 rfl rfl ?_
  refine ab_getI (ci := 1) (k := 0) d_Ways_trace_2 v_191 rfl (by decide) (by decide) rfl ?_
  refine ab_putI (ci := 9) (k := 0) d_Ways_trace_5 v_361 rfl (by decide) (by decide) rfl (Or.inl rfl) rfl rfl ?_
  refine ab_iconst (v := 0) d_Ways_trace_8 rfl ?_
  refine ab_istore_n (i := 3) d_Ways_trace_9 rfl (by decide) (Or.inr rfl) ?_
  exact h
theorem q_Ways_trace_10 {w : ab_Wd} {d n nc ns : Nat} {I : Nat → Nat → Int32} {L : Nat → Nat → Int64} {res : ab_Re} (v3 : Int32) (hc : nc ≤ res.2.2.2.2.2.1) (hs : ns ≤ res.2.2.2.2.2.2)
    (h : ((100 ≤ v3 → (ab_E w (d + 1) mt_Ways_trace 55 [.ref kx_ways, .ref kx_now_cables, .ref kx_forest, .int 0] [] (I, L, ab_RR, n, nc, ns) res)) ∧ (¬ 100 ≤ v3 → ((vp_in v3 100) ∧ ab_E w (d + 1) mt_Ways_trace 10 [.ref kx_ways, .ref kx_now_cables, .ref kx_forest, .int (v3 + 1)] [] ((ab_up (ab_up (ab_up (ab_up I kx_ways_span v3.toNatClampNeg (-1)) kx_ways_hops v3.toNatClampNeg (-1)) kx_ways_step v3.toNatClampNeg (-1)) kx_ways_dearest v3.toNatClampNeg (-1)), L, ab_RR, n, nc, ns) res)))) : ab_E w (d + 1) mt_Ways_trace 10 [.ref kx_ways, .ref kx_now_cables, .ref kx_forest, .int v3] [] (I, L, ab_RR, n, nc, ns) res := by
  refine ab_iload_n (i := 3) d_Ways_trace_10 rfl rfl ?_
  refine ab_aload_n (i := 0) d_Ways_trace_11 rfl rfl ?_
  refine ab_getR (ci := 9) (k := 1) (j := kx_ways_span) d_Ways_trace_12 v_362 rfl (by decide) (by decide) rfl r_kx_ways_1 ?_
  refine ab_alen (v := 100) d_Ways_trace_15 (by decide) (by decide) rfl ?_
  refine ab_icmp_ge (tgt := 53) d_Ways_trace_16 (by decide) (fun c1 => ?_) (fun c1 => ?_)
  · have h := h.1 c1
    refine ab_iconst (v := 0) d_Ways_trace_53 rfl ?_
    refine ab_istore_n (i := 3) d_Ways_trace_54 rfl (by decide) (Or.inr rfl) ?_
    exact h
  · have h := h.2 c1
    refine ab_aload_n (i := 0) d_Ways_trace_19 rfl rfl ?_
    refine ab_getR (ci := 9) (k := 1) (j := kx_ways_span) d_Ways_trace_20 v_362 rfl (by decide) (by decide) rfl r_kx_ways_1 ?_
    refine ab_iload_n (i := 3) d_Ways_trace_23 rfl rfl ?_
    refine ab_iconst (v := (-1)) d_Ways_trace_24 rfl ?_
    have g2 := h.1; have h := h.2
    refine ab_iast d_Ways_trace_25 rfl rfl g2 ?_
    refine ab_aload_n (i := 0) d_Ways_trace_26 rfl rfl ?_
    refine ab_getR (ci := 9) (k := 2) (j := kx_ways_hops) d_Ways_trace_27 v_363 rfl (by decide) (by decide) rfl r_kx_ways_2 ?_
    refine ab_iload_n (i := 3) d_Ways_trace_30 rfl rfl ?_
    refine ab_iconst (v := (-1)) d_Ways_trace_31 rfl ?_
    refine ab_iast d_Ways_trace_32 rfl rfl g2 ?_
    refine ab_aload_n (i := 0) d_Ways_trace_33 rfl rfl ?_
    refine ab_getR (ci := 9) (k := 3) (j := kx_ways_step) d_Ways_trace_34 v_364 rfl (by decide) (by decide) rfl r_kx_ways_3 ?_
    refine ab_iload_n (i := 3) d_Ways_trace_37 rfl rfl ?_
    refine ab_iconst (v := (-1)) d_Ways_trace_38 rfl ?_
    refine ab_iast d_Ways_trace_39 rfl rfl g2 ?_
    refine ab_aload_n (i := 0) d_Ways_trace_40 rfl rfl ?_
    refine ab_getR (ci := 9) (k := 4) (j := kx_ways_dearest) d_Ways_trace_41 v_365 rfl (by decide) (by decide) rfl r_kx_ways_4 ?_
    refine ab_iload_n (i := 3) d_Ways_trace_44 rfl rfl ?_
    refine ab_iconst (v := (-1)) d_Ways_trace_45 rfl ?_
    refine ab_iast d_Ways_trace_46 rfl rfl g2 ?_
    refine ab_iinc (i := 3) (v := (v3 + 1)) d_Ways_trace_47 rfl rfl (by decide) (Or.inr rfl) ?_
    refine ab_goto (tgt := 10) d_Ways_trace_50 (by decide) ?_
    exact h
theorem q_Ways_trace_55 {w : ab_Wd} {d n nc ns : Nat} {I : Nat → Nat → Int32} {L : Nat → Nat → Int64} {res : ab_Re} (v3 : Int32) (hc : nc ≤ res.2.2.2.2.2.1) (hs : ns ≤ res.2.2.2.2.2.2)
    (h : (((I kx_ways 0) ≤ v3 → (ab_E w (d + 1) mt_Ways_trace 93 [.ref kx_ways, .ref kx_now_cables, .ref kx_forest, .int 0] [] (I, L, ab_RR, n, nc, ns) res)) ∧ (¬ (I kx_ways 0) ≤ v3 → (∃ (r2 : Int32), ab_C w d mt_Ways_at [.int v3, .int v3] (I, L, ab_RR, n, nc, ns) (.inl (some (.int r2)), (I, L, ab_RR, n, nc, ns)) ∧ (vp_in r2 100) ∧ ∃ (r4 : Int32), ab_C w d mt_Ways_at [.int v3, .int v3] ((ab_up I kx_ways_span r2.toNatClampNeg 0), L, ab_RR, n, nc, ns) (.inl (some (.int r4)), ((ab_up I kx_ways_span r2.toNatClampNeg 0), L, ab_RR, n, nc, ns)) ∧ (vp_in r4 100) ∧ ab_E w (d + 1) mt_Ways_trace 55 [.ref kx_ways, .ref kx_now_cables, .ref kx_forest, .int (v3 + 1)] [] ((ab_up (ab_up I kx_ways_span r2.toNatClampNeg 0) kx_ways_hops r4.toNatClampNeg 0), L, ab_RR, n, nc, ns) res)))) : ab_E w (d + 1) mt_Ways_trace 55 [.ref kx_ways, .ref kx_now_cables, .ref kx_forest, .int v3] [] (I, L, ab_RR, n, nc, ns) res := by
  refine ab_iload_n (i := 3) d_Ways_trace_55 rfl rfl ?_
  refine ab_aload_n (i := 0) d_Ways_trace_56 rfl rfl ?_
  refine ab_getI (ci := 9) (k := 0) d_Ways_trace_57 v_361 rfl (by decide) (by decide) rfl ?_
  refine ab_icmp_ge (tgt := 91) d_Ways_trace_60 (by decide) (fun c1 => ?_) (fun c1 => ?_)
  · have h := h.1 c1
    refine ab_iconst (v := 0) d_Ways_trace_91 rfl ?_
    refine ab_istore_n (i := 3) d_Ways_trace_92 rfl (by decide) (Or.inr rfl) ?_
    exact h
  · have h := h.2 c1
    refine ab_aload_n (i := 0) d_Ways_trace_63 rfl rfl ?_
    refine ab_getR (ci := 9) (k := 1) (j := kx_ways_span) d_Ways_trace_64 v_362 rfl (by decide) (by decide) rfl r_kx_ways_1 ?_
    refine ab_iload_n (i := 3) d_Ways_trace_67 rfl rfl ?_
    refine ab_iload_n (i := 3) d_Ways_trace_68 rfl rfl ?_
    obtain ⟨r2, hC, h⟩ := h
    refine ab_callS (me2 := mt_Ways_at) (as := [.int v3, .int v3]) (st := [.ref kx_ways_span]) (rv := (some (.int r2))) (M2 := (I, L, ab_RR, n, nc, ns)) d_Ways_trace_69 ce_Ways_at ⟨v_458, Or.inl v_457⟩ (Nat.le_of_ble_eq_true rfl) hC (Nat.le_refl _) (Nat.le_refl _) hc hs (fun j h9 => by cases h9) (fun _ _ => rfl) ?_
    show ab_E w (d + 1) mt_Ways_trace 72 [.ref kx_ways, .ref kx_now_cables, .ref kx_forest, .int v3] [.int r2, .ref kx_ways_span] (I, L, ab_RR, n, nc, ns) res
    refine ab_iconst (v := 0) d_Ways_trace_72 rfl ?_
    have g3 := h.1; have h := h.2
    refine ab_iast d_Ways_trace_73 rfl rfl g3 ?_
    refine ab_aload_n (i := 0) d_Ways_trace_74 rfl rfl ?_
    refine ab_getR (ci := 9) (k := 2) (j := kx_ways_hops) d_Ways_trace_75 v_363 rfl (by decide) (by decide) rfl r_kx_ways_2 ?_
    refine ab_iload_n (i := 3) d_Ways_trace_78 rfl rfl ?_
    refine ab_iload_n (i := 3) d_Ways_trace_79 rfl rfl ?_
    obtain ⟨r4, hC, h⟩ := h
    refine ab_callS (me2 := mt_Ways_at) (as := [.int v3, .int v3]) (st := [.ref kx_ways_hops]) (rv := (some (.int r4))) (M2 := ((ab_up I kx_ways_span r2.toNatClampNeg 0), L, ab_RR, n, nc, ns)) d_Ways_trace_80 ce_Ways_at ⟨v_458, Or.inl v_457⟩ (Nat.le_of_ble_eq_true rfl) hC (Nat.le_refl _) (Nat.le_refl _) hc hs (fun j h9 => by cases h9) (fun _ _ => rfl) ?_
    show ab_E w (d + 1) mt_Ways_trace 83 [.ref kx_ways, .ref kx_now_cables, .ref kx_forest, .int v3] [.int r4, .ref kx_ways_hops] ((ab_up I kx_ways_span r2.toNatClampNeg 0), L, ab_RR, n, nc, ns) res
    refine ab_iconst (v := 0) d_Ways_trace_83 rfl ?_
    have g5 := h.1; have h := h.2
    refine ab_iast d_Ways_trace_84 rfl rfl g5 ?_
    refine ab_iinc (i := 3) (v := (v3 + 1)) d_Ways_trace_85 rfl rfl (by decide) (Or.inr rfl) ?_
    refine ab_goto (tgt := 55) d_Ways_trace_88 (by decide) ?_
    exact h
theorem q_Ways_trace_93 {w : ab_Wd} {d n nc ns : Nat} {I : Nat → Nat → Int32} {L : Nat → Nat → Int64} {res : ab_Re} (v3 : Int32) (hc : nc ≤ res.2.2.2.2.2.1) (hs : ns ≤ res.2.2.2.2.2.2)
    (h : (((I kx_forest 1) ≤ v3 → (res = (.inl none, (I, L, ab_RR, n, nc, ns)))) ∧ (¬ (I kx_forest 1) ≤ v3 → ((vp_in v3 9) ∧ ∃ (I4 : Nat → Nat → Int32), ab_C w d mt_Ways_connect [.ref kx_ways, .ref kx_now_cables, .int (I kx_forest_order v3.toNatClampNeg)] (I, L, ab_RR, n, nc, ns) (.inl none, (I4, L, ab_RR, n, nc, ns)) ∧ ab_E w (d + 1) mt_Ways_trace 93 [.ref kx_ways, .ref kx_now_cables, .ref kx_forest, .int (v3 + 1)] [] (I4, L, ab_RR, n, nc, ns) res)))) : ab_E w (d + 1) mt_Ways_trace 93 [.ref kx_ways, .ref kx_now_cables, .ref kx_forest, .int v3] [] (I, L, ab_RR, n, nc, ns) res := by
  refine ab_iload_n (i := 3) d_Ways_trace_93 rfl rfl ?_
  refine ab_aload_n (i := 2) d_Ways_trace_94 rfl rfl ?_
  refine ab_getI (ci := 2) (k := 1) d_Ways_trace_95 v_332 rfl (by decide) (by decide) rfl ?_
  refine ab_icmp_ge (tgt := 118) d_Ways_trace_98 (by decide) (fun c1 => ?_) (fun c1 => ?_)
  · have h := h.1 c1
    exact ab_vret d_Ways_trace_118 rfl h
  · have h := h.2 c1
    refine ab_aload_n (i := 0) d_Ways_trace_101 rfl rfl ?_
    refine ab_aload_n (i := 1) d_Ways_trace_102 rfl rfl ?_
    refine ab_aload_n (i := 2) d_Ways_trace_103 rfl rfl ?_
    refine ab_getR (ci := 2) (k := 0) (j := kx_forest_order) d_Ways_trace_104 v_329 rfl (by decide) (by decide) rfl r_kx_forest_0 ?_
    refine ab_iload_n (i := 3) d_Ways_trace_107 rfl rfl ?_
    have g2 := h.1; have h := h.2
    refine ab_iald d_Ways_trace_108 rfl rfl g2 ?_
    obtain ⟨I4, hC, h⟩ := h
    refine ab_callV (me2 := mt_Ways_connect) (b := kx_ways) (as := [.ref kx_now_cables, .int (I kx_forest_order v3.toNatClampNeg)]) (st := []) (rv := none) (M2 := (I4, L, ab_RR, n, nc, ns)) d_Ways_trace_109 ce_Ways_connect v_460 v_462 v_1 (by decide) rfl (Nat.le_of_ble_eq_true rfl) hC (Nat.le_refl _) (Nat.le_refl _) hc hs (fun j h9 => by cases h9) (fun _ _ => rfl) ?_
    show ab_E w (d + 1) mt_Ways_trace 112 [.ref kx_ways, .ref kx_now_cables, .ref kx_forest, .int v3] [] (I4, L, ab_RR, n, nc, ns) res
    refine ab_iinc (i := 3) (v := (v3 + 1)) d_Ways_trace_112 rfl rfl (by decide) (Or.inr rfl) ?_
    refine ab_goto (tgt := 93) d_Ways_trace_115 (by decide) ?_
    exact h
theorem d_Ways_dearestCable_0 : decode (ab_bc mt_Ways_dearestCable) 0 = .ok (.aload_n 0, 1) := by decide +kernel
theorem d_Ways_dearestCable_1 : decode (ab_bc mt_Ways_dearestCable) 1 = .ok (.getfield 25, 3) := by decide +kernel
theorem d_Ways_dearestCable_4 : decode (ab_bc mt_Ways_dearestCable) 4 = .ok (.iload_n 1, 1) := by decide +kernel
theorem d_Ways_dearestCable_5 : decode (ab_bc mt_Ways_dearestCable) 5 = .ok (.iload_n 2, 1) := by decide +kernel
theorem d_Ways_dearestCable_6 : decode (ab_bc mt_Ways_dearestCable) 6 = .ok (.invokestatic 28, 3) := by decide +kernel
theorem d_Ways_dearestCable_9 : decode (ab_bc mt_Ways_dearestCable) 9 = .ok (.iaload, 1) := by decide +kernel
theorem d_Ways_dearestCable_10 : decode (ab_bc mt_Ways_dearestCable) 10 = .ok (.ireturn, 1) := by decide +kernel
-- CableKeeper$Ways.dearestCable(II)I over kx_ways
theorem q_Ways_dearestCable_0 {w : ab_Wd} {d n nc ns : Nat} {I : Nat → Nat → Int32} {L : Nat → Nat → Int64} {res : ab_Re} (v1 : Int32) (v2 : Int32) (hc : nc ≤ res.2.2.2.2.2.1) (hs : ns ≤ res.2.2.2.2.2.2)
    (h : ∃ (r1 : Int32), ab_C w d mt_Ways_at [.int v1, .int v2] (I, L, ab_RR, n, nc, ns) (.inl (some (.int r1)), (I, L, ab_RR, n, nc, ns)) ∧ (vp_in r1 100) ∧ res = (.inl (some (.int (I kx_ways_dearest r1.toNatClampNeg))), (I, L, ab_RR, n, nc, ns))) : ab_E w (d + 1) mt_Ways_dearestCable 0 [.ref kx_ways, .int v1, .int v2] [] (I, L, ab_RR, n, nc, ns) res := by
  refine ab_aload_n (i := 0) d_Ways_dearestCable_0 rfl rfl ?_
  refine ab_getR (ci := 9) (k := 4) (j := kx_ways_dearest) d_Ways_dearestCable_1 v_365 rfl (by decide) (by decide) rfl r_kx_ways_4 ?_
  refine ab_iload_n (i := 1) d_Ways_dearestCable_4 rfl rfl ?_
  refine ab_iload_n (i := 2) d_Ways_dearestCable_5 rfl rfl ?_
  obtain ⟨r1, hC, h⟩ := h
  refine ab_callS (me2 := mt_Ways_at) (as := [.int v1, .int v2]) (st := [.ref kx_ways_dearest]) (rv := (some (.int r1))) (M2 := (I, L, ab_RR, n, nc, ns)) d_Ways_dearestCable_6 ce_Ways_at ⟨v_458, Or.inl v_457⟩ (Nat.le_of_ble_eq_true rfl) hC (Nat.le_refl _) (Nat.le_refl _) hc hs (fun j h9 => by cases h9) (fun _ _ => rfl) ?_
  show ab_E w (d + 1) mt_Ways_dearestCable 9 [.ref kx_ways, .int v1, .int v2] [.int r1, .ref kx_ways_dearest] (I, L, ab_RR, n, nc, ns) res
  have g2 := h.1; have h := h.2
  refine ab_iald d_Ways_dearestCable_9 rfl rfl g2 ?_
  exact ab_iret (ty := .int) d_Ways_dearestCable_10 rfl rfl h
theorem d_Ways_at_0 : decode (ab_bc mt_Ways_at) 0 = .ok (.iload_n 0, 1) := by decide +kernel
theorem d_Ways_at_1 : decode (ab_bc mt_Ways_at) 1 = .ok (.bipush 10, 2) := by decide +kernel
theorem d_Ways_at_3 : decode (ab_bc mt_Ways_at) 3 = .ok (.imul, 1) := by decide +kernel
theorem d_Ways_at_4 : decode (ab_bc mt_Ways_at) 4 = .ok (.iload_n 1, 1) := by decide +kernel
theorem d_Ways_at_5 : decode (ab_bc mt_Ways_at) 5 = .ok (.iadd, 1) := by decide +kernel
theorem d_Ways_at_6 : decode (ab_bc mt_Ways_at) 6 = .ok (.ireturn, 1) := by decide +kernel
-- CableKeeper$Ways.at(II)I over 
theorem q_Ways_at_0 {w : ab_Wd} {d n nc ns : Nat} {I : Nat → Nat → Int32} {L : Nat → Nat → Int64} {res : ab_Re} (v0 : Int32) (v1 : Int32) (hc : nc ≤ res.2.2.2.2.2.1) (hs : ns ≤ res.2.2.2.2.2.2)
    (h : res = (.inl (some (.int ((v0 * 10) + v1))), (I, L, ab_RR, n, nc, ns))) : ab_E w d mt_Ways_at 0 [.int v0, .int v1] [] (I, L, ab_RR, n, nc, ns) res := by
  refine ab_iload_n (i := 0) d_Ways_at_0 rfl rfl ?_
  refine ab_bipush (v := 10) d_Ways_at_1 rfl ?_
  refine ab_imul d_Ways_at_3 ?_
  refine ab_iload_n (i := 1) d_Ways_at_4 rfl rfl ?_
  refine ab_iadd d_Ways_at_5 ?_
  exact ab_iret (ty := .int) d_Ways_at_6 rfl rfl h
