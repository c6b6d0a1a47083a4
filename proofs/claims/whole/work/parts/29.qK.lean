theorem d_K_nextBest_0 : decode (ab_bc mt_K_nextBest) 0 = .ok (.iconst (-1), 1) := by decide +kernel
theorem d_K_nextBest_1 : decode (ab_bc mt_K_nextBest) 1 = .ok (.istore_n 1, 1) := by decide +kernel
theorem d_K_nextBest_2 : decode (ab_bc mt_K_nextBest) 2 = .ok (.iconst 0, 1) := by decide +kernel
theorem d_K_nextBest_3 : decode (ab_bc mt_K_nextBest) 3 = .ok (.istore_n 2, 1) := by decide +kernel
theorem d_K_nextBest_4 : decode (ab_bc mt_K_nextBest) 4 = .ok (.iload_n 2, 1) := by decide +kernel
theorem d_K_nextBest_5 : decode (ab_bc mt_K_nextBest) 5 = .ok (.aload_n 0, 1) := by decide +kernel
theorem d_K_nextBest_6 : decode (ab_bc mt_K_nextBest) 6 = .ok (.getfield 23, 3) := by decide +kernel
theorem d_K_nextBest_9 : decode (ab_bc mt_K_nextBest) 9 = .ok (.getfield 110, 3) := by decide +kernel
theorem d_K_nextBest_12 : decode (ab_bc mt_K_nextBest) 12 = .ok (.getfield 116, 3) := by decide +kernel
theorem d_K_nextBest_15 : decode (ab_bc mt_K_nextBest) 15 = .ok (.if_icmp .ge 72, 3) := by decide +kernel
theorem d_K_nextBest_18 : decode (ab_bc mt_K_nextBest) 18 = .ok (.aload_n 0, 1) := by decide +kernel
theorem d_K_nextBest_19 : decode (ab_bc mt_K_nextBest) 19 = .ok (.iload_n 2, 1) := by decide +kernel
theorem d_K_nextBest_20 : decode (ab_bc mt_K_nextBest) 20 = .ok (.invokevirtual 211, 3) := by decide +kernel
theorem d_K_nextBest_23 : decode (ab_bc mt_K_nextBest) 23 = .ok (.istore_n 3, 1) := by decide +kernel
theorem d_K_nextBest_24 : decode (ab_bc mt_K_nextBest) 24 = .ok (.iload_n 3, 1) := by decide +kernel
theorem d_K_nextBest_25 : decode (ab_bc mt_K_nextBest) 25 = .ok (.iconst (-1), 1) := by decide +kernel
theorem d_K_nextBest_26 : decode (ab_bc mt_K_nextBest) 26 = .ok (.if_icmp .eq 55, 3) := by decide +kernel
theorem d_K_nextBest_29 : decode (ab_bc mt_K_nextBest) 29 = .ok (.aload_n 0, 1) := by decide +kernel
theorem d_K_nextBest_30 : decode (ab_bc mt_K_nextBest) 30 = .ok (.getfield 37, 3) := by decide +kernel
theorem d_K_nextBest_33 : decode (ab_bc mt_K_nextBest) 33 = .ok (.getfield 125, 3) := by decide +kernel
theorem d_K_nextBest_36 : decode (ab_bc mt_K_nextBest) 36 = .ok (.aload_n 0, 1) := by decide +kernel
theorem d_K_nextBest_37 : decode (ab_bc mt_K_nextBest) 37 = .ok (.getfield 23, 3) := by decide +kernel
theorem d_K_nextBest_40 : decode (ab_bc mt_K_nextBest) 40 = .ok (.getfield 110, 3) := by decide +kernel
theorem d_K_nextBest_43 : decode (ab_bc mt_K_nextBest) 43 = .ok (.getfield 195, 3) := by decide +kernel
theorem d_K_nextBest_46 : decode (ab_bc mt_K_nextBest) 46 = .ok (.iload_n 2, 1) := by decide +kernel
theorem d_K_nextBest_47 : decode (ab_bc mt_K_nextBest) 47 = .ok (.iaload, 1) := by decide +kernel
theorem d_K_nextBest_48 : decode (ab_bc mt_K_nextBest) 48 = .ok (.iadd, 1) := by decide +kernel
theorem d_K_nextBest_49 : decode (ab_bc mt_K_nextBest) 49 = .ok (.aload_n 0, 1) := by decide +kernel
theorem d_K_nextBest_50 : decode (ab_bc mt_K_nextBest) 50 = .ok (.getfield 23, 3) := by decide +kernel
theorem d_K_nextBest_53 : decode (ab_bc mt_K_nextBest) 53 = .ok (.getfield 110, 3) := by decide +kernel
theorem d_K_nextBest_56 : decode (ab_bc mt_K_nextBest) 56 = .ok (.getfield 195, 3) := by decide +kernel
theorem d_K_nextBest_59 : decode (ab_bc mt_K_nextBest) 59 = .ok (.iload_n 3, 1) := by decide +kernel
theorem d_K_nextBest_60 : decode (ab_bc mt_K_nextBest) 60 = .ok (.iaload, 1) := by decide +kernel
theorem d_K_nextBest_61 : decode (ab_bc mt_K_nextBest) 61 = .ok (.isub, 1) := by decide +kernel
theorem d_K_nextBest_62 : decode (ab_bc mt_K_nextBest) 62 = .ok (.istore 4, 2) := by decide +kernel
theorem d_K_nextBest_64 : decode (ab_bc mt_K_nextBest) 64 = .ok (.iload_n 1, 1) := by decide +kernel
theorem d_K_nextBest_65 : decode (ab_bc mt_K_nextBest) 65 = .ok (.iconst (-1), 1) := by decide +kernel
theorem d_K_nextBest_66 : decode (ab_bc mt_K_nextBest) 66 = .ok (.if_icmp .ne 8, 3) := by decide +kernel
theorem d_K_nextBest_69 : decode (ab_bc mt_K_nextBest) 69 = .ok (.iload 4, 2) := by decide +kernel
theorem d_K_nextBest_71 : decode (ab_bc mt_K_nextBest) 71 = .ok (.goto 9, 3) := by decide +kernel
theorem d_K_nextBest_74 : decode (ab_bc mt_K_nextBest) 74 = .ok (.iload_n 1, 1) := by decide +kernel
theorem d_K_nextBest_75 : decode (ab_bc mt_K_nextBest) 75 = .ok (.iload 4, 2) := by decide +kernel
theorem d_K_nextBest_77 : decode (ab_bc mt_K_nextBest) 77 = .ok (.invokestatic 279, 3) := by decide +kernel
theorem d_K_nextBest_80 : decode (ab_bc mt_K_nextBest) 80 = .ok (.istore_n 1, 1) := by decide +kernel
theorem d_K_nextBest_81 : decode (ab_bc mt_K_nextBest) 81 = .ok (.iinc 2 1, 3) := by decide +kernel
theorem d_K_nextBest_84 : decode (ab_bc mt_K_nextBest) 84 = .ok (.goto (-80), 3) := by decide +kernel
theorem d_K_nextBest_87 : decode (ab_bc mt_K_nextBest) 87 = .ok (.iload_n 1, 1) := by decide +kernel
theorem d_K_nextBest_88 : decode (ab_bc mt_K_nextBest) 88 = .ok (.ireturn, 1) := by decide +kernel
-- CableKeeper.nextBest()I over kx
theorem q_K_nextBest_0 {w : ab_Wd} {d n nc ns : Nat} {I : Nat → Nat → Int32} {L : Nat → Nat → Int64} {res : ab_Re}  (hc : nc ≤ res.2.2.2.2.2.1) (hs : ns ≤ res.2.2.2.2.2.2)
    (h : ab_E w (d + 1) mt_K_nextBest 4 [.ref kx, .int (-1), .int 0, .null, .null] [] (I, L, ab_RR, n, nc, ns) res) : ab_E w (d + 1) mt_K_nextBest 0 [.ref kx, .null, .null, .null, .null] [] (I, L, ab_RR, n, nc, ns) res := by
  refine ab_iconst (v := (-1)) d_K_nextBest_0 rfl ?_
  refine ab_istore_n (i := 1) d_K_nextBest_1 rfl (by decide) (Or.inr rfl) ?_
  refine ab_iconst (v := 0) d_K_nextBest_2 rfl ?_
  refine ab_istore_n (i := 2) d_K_nextBest_3 rfl (by decide) (Or.inr rfl) ?_
  exact h
theorem q_K_nextBest_4 {w : ab_Wd} {d n nc ns : Nat} {I : Nat → Nat → Int32} {L : Nat → Nat → Int64} {res : ab_Re} (v1 : Int32) (v2 : Int32) (hc : nc ≤ res.2.2.2.2.2.1) (hs : ns ≤ res.2.2.2.2.2.2)
    (h : (((I kx_now_cables 1) ≤ v2 → (res = (.inl (some (.int v1)), (I, L, ab_RR, n, nc, ns)))) ∧ (¬ (I kx_now_cables 1) ≤ v2 → (∃ (r2 : Int32), ab_C w d mt_K_dearestOf [.ref kx, .int v2] (I, L, ab_RR, n, nc, ns) (.inl (some (.int r2)), (I, L, ab_RR, n, nc, ns)) ∧ ((r2 = (-1) → (ab_E w (d + 1) mt_K_nextBest 81 [.ref kx, .int v1, .int v2, .int r2, .null] [] (I, L, ab_RR, n, nc, ns) res)) ∧ (¬ r2 = (-1) → ((vp_in v2 24) ∧ (vp_in r2 24) ∧ ((¬ v1 = (-1) → (ab_E w (d + 1) mt_K_nextBest 80 [.ref kx, .int v1, .int v2, .int r2, .int (((I kx_forest 3) + (I kx_now_cables_price v2.toNatClampNeg)) - (I kx_now_cables_price r2.toNatClampNeg))] [.int (ab_min32 v1 (((I kx_forest 3) + (I kx_now_cables_price v2.toNatClampNeg)) - (I kx_now_cables_price r2.toNatClampNeg)))] (I, L, ab_RR, n, nc, ns) res)) ∧ (v1 = (-1) → (ab_E w (d + 1) mt_K_nextBest 80 [.ref kx, .int v1, .int v2, .int r2, .int (((I kx_forest 3) + (I kx_now_cables_price v2.toNatClampNeg)) - (I kx_now_cables_price r2.toNatClampNeg))] [.int (((I kx_forest 3) + (I kx_now_cables_price v2.toNatClampNeg)) - (I kx_now_cables_price r2.toNatClampNeg))] (I, L, ab_RR, n, nc, ns) res)))))))))) : ab_E w (d + 1) mt_K_nextBest 4 [.ref kx, .int v1, .int v2, .null, .null] [] (I, L, ab_RR, n, nc, ns) res := by
  refine ab_iload_n (i := 2) d_K_nextBest_4 rfl rfl ?_
  refine ab_aload_n (i := 0) d_K_nextBest_5 rfl rfl ?_
  refine ab_getR (ci := 10) (k := 3) (j := kx_now) d_K_nextBest_6 v_475 rfl (by decide) (by decide) rfl r_kx_3 ?_
  refine ab_getR (ci := 6) (k := 0) (j := kx_now_cables) d_K_nextBest_9 v_294 rfl (by decide) (by decide) rfl r_kx_now_0 ?_
  refine ab_getI (ci := 1) (k := 1) d_K_nextBest_12 v_199 rfl (by decide) (by decide) rfl ?_
  refine ab_icmp_ge (tgt := 87) d_K_nextBest_15 (by decide) (fun c1 => ?_) (fun c1 => ?_)
  · have h := h.1 c1
    refine ab_iload_n (i := 1) d_K_nextBest_87 rfl rfl ?_
    exact ab_iret (ty := .int) d_K_nextBest_88 rfl rfl h
  · have h := h.2 c1
    refine ab_aload_n (i := 0) d_K_nextBest_18 rfl rfl ?_
    refine ab_iload_n (i := 2) d_K_nextBest_19 rfl rfl ?_
    obtain ⟨r2, hC, h⟩ := h
    refine ab_callV (me2 := mt_K_dearestOf) (b := kx) (as := [.int v2]) (st := []) (rv := (some (.int r2))) (M2 := (I, L, ab_RR, n, nc, ns)) d_K_nextBest_20 ce_K_dearestOf v_936 v_938 v_28 (by decide) rfl (Nat.le_of_ble_eq_true rfl) hC (Nat.le_refl _) (Nat.le_refl _) hc hs (fun j h9 => by cases h9) (fun _ _ => rfl) ?_
    show ab_E w (d + 1) mt_K_nextBest 23 [.ref kx, .int v1, .int v2, .null, .null] [.int r2] (I, L, ab_RR, n, nc, ns) res
    refine ab_istore_n (i := 3) d_K_nextBest_23 rfl (by decide) (Or.inr rfl) ?_
    refine ab_iload_n (i := 3) d_K_nextBest_24 rfl rfl ?_
    refine ab_iconst (v := (-1)) d_K_nextBest_25 rfl ?_
    refine ab_icmp_eq (tgt := 81) d_K_nextBest_26 (by decide) (fun c3 => ?_) (fun c3 => ?_)
    · have h := h.1 c3
      exact h
    · have h := h.2 c3
      refine ab_aload_n (i := 0) d_K_nextBest_29 rfl rfl ?_
      refine ab_getR (ci := 10) (k := 6) (j := kx_forest) d_K_nextBest_30 v_478 rfl (by decide) (by decide) rfl r_kx_6 ?_
      refine ab_getI (ci := 2) (k := 3) d_K_nextBest_33 v_337 rfl (by decide) (by decide) rfl ?_
      refine ab_aload_n (i := 0) d_K_nextBest_36 rfl rfl ?_
      refine ab_getR (ci := 10) (k := 3) (j := kx_now) d_K_nextBest_37 v_475 rfl (by decide) (by decide) rfl r_kx_3 ?_
      refine ab_getR (ci := 6) (k := 0) (j := kx_now_cables) d_K_nextBest_40 v_294 rfl (by decide) (by decide) rfl r_kx_now_0 ?_
      refine ab_getR (ci := 1) (k := 5) (j := kx_now_cables_price) d_K_nextBest_43 v_224 rfl (by decide) (by decide) rfl r_kx_now_cables_5 ?_
      refine ab_iload_n (i := 2) d_K_nextBest_46 rfl rfl ?_
      have g4 := h.1; have h := h.2
      refine ab_iald d_K_nextBest_47 rfl rfl g4 ?_
      refine ab_iadd d_K_nextBest_48 ?_
      refine ab_aload_n (i := 0) d_K_nextBest_49 rfl rfl ?_
      refine ab_getR (ci := 10) (k := 3) (j := kx_now) d_K_nextBest_50 v_475 rfl (by decide) (by decide) rfl r_kx_3 ?_
      refine ab_getR (ci := 6) (k := 0) (j := kx_now_cables) d_K_nextBest_53 v_294 rfl (by decide) (by decide) rfl r_kx_now_0 ?_
      refine ab_getR (ci := 1) (k := 5) (j := kx_now_cables_price) d_K_nextBest_56 v_224 rfl (by decide) (by decide) rfl r_kx_now_cables_5 ?_
      refine ab_iload_n (i := 3) d_K_nextBest_59 rfl rfl ?_
      have g5 := h.1; have h := h.2
      refine ab_iald d_K_nextBest_60 rfl rfl g5 ?_
      refine ab_isub d_K_nextBest_61 ?_
      refine ab_istore (i := 4) d_K_nextBest_62 (by decide) (Or.inr rfl) ?_
      refine ab_iload_n (i := 1) d_K_nextBest_64 rfl rfl ?_
      refine ab_iconst (v := (-1)) d_K_nextBest_65 rfl ?_
      refine ab_icmp_ne (tgt := 74) d_K_nextBest_66 (by decide) (fun c6 => ?_) (fun c6 => ?_)
      · have h := h.1 c6
        refine ab_iload_n (i := 1) d_K_nextBest_74 rfl rfl ?_
        refine ab_iload (i := 4) d_K_nextBest_75 rfl ?_
        refine ab_min d_K_nextBest_77 v_447 v_448 v_150 v_449 (Nat.succ_le_succ (Nat.zero_le _)) (Nat.le_of_ble_eq_true rfl) hc hs ?_
        exact h
      · have h := h.2 c6
        refine ab_iload (i := 4) d_K_nextBest_69 rfl ?_
        refine ab_goto (tgt := 80) d_K_nextBest_71 (by decide) ?_
        exact h
theorem q_K_nextBest_80 {w : ab_Wd} {d n nc ns : Nat} {I : Nat → Nat → Int32} {L : Nat → Nat → Int64} {res : ab_Re} (v1 : Int32) (v2 : Int32) (v3 : Int32) (v4 : Int32) (s0 : Int32) (hc : nc ≤ res.2.2.2.2.2.1) (hs : ns ≤ res.2.2.2.2.2.2)
    (h : ab_E w (d + 1) mt_K_nextBest 81 [.ref kx, .int s0, .int v2, .int v3, .null] [] (I, L, ab_RR, n, nc, ns) res) : ab_E w (d + 1) mt_K_nextBest 80 [.ref kx, .int v1, .int v2, .int v3, .int v4] [.int s0] (I, L, ab_RR, n, nc, ns) res := by
  refine ab_istore_n (i := 1) d_K_nextBest_80 rfl (by decide) (Or.inr rfl) ?_
  refine ab_drop 4 ?_
  exact h
theorem q_K_nextBest_81 {w : ab_Wd} {d n nc ns : Nat} {I : Nat → Nat → Int32} {L : Nat → Nat → Int64} {res : ab_Re} (v1 : Int32) (v2 : Int32) (v3 : Int32) (hc : nc ≤ res.2.2.2.2.2.1) (hs : ns ≤ res.2.2.2.2.2.2)
    (h : ab_E w (d + 1) mt_K_nextBest 4 [.ref kx, .int v1, .int (v2 + 1), .null, .null] [] (I, L, ab_RR, n, nc, ns) res) : ab_E w (d + 1) mt_K_nextBest 81 [.ref kx, .int v1, .int v2, .int v3, .null] [] (I, L, ab_RR, n, nc, ns) res := by
  refine ab_iinc (i := 2) (v := (v2 + 1)) d_K_nextBest_81 rfl rfl (by decide) (Or.inr rfl) ?_
  refine ab_goto (tgt := 4) d_K_nextBest_84 (by decide) ?_
  refine ab_drop 3 ?_
  exact h
theorem d_K_endsAt_0 : decode (ab_bc mt_K_endsAt) 0 = .ok (.aload_n 0, 1) := by decide +kernel
theorem d_K_endsAt_1 : decode (ab_bc mt_K_endsAt) 1 = .ok (.getfield 37, 3) := by decide +kernel
theorem d_K_endsAt_4 : decode (ab_bc mt_K_endsAt) 4 = .ok (.getfield 122, 3) := by decide +kernel
theorem d_K_endsAt_7 : decode (ab_bc mt_K_endsAt) 7 = .ok (.aload_n 0, 1) := by decide +kernel
theorem d_K_endsAt_8 : decode (ab_bc mt_K_endsAt) 8 = .ok (.getfield 23, 3) := by decide +kernel
theorem d_K_endsAt_11 : decode (ab_bc mt_K_endsAt) 11 = .ok (.getfield 110, 3) := by decide +kernel
theorem d_K_endsAt_14 : decode (ab_bc mt_K_endsAt) 14 = .ok (.iload_n 1, 1) := by decide +kernel
theorem d_K_endsAt_15 : decode (ab_bc mt_K_endsAt) 15 = .ok (.invokevirtual 291, 3) := by decide +kernel
theorem d_K_endsAt_18 : decode (ab_bc mt_K_endsAt) 18 = .ok (.iand, 1) := by decide +kernel
theorem d_K_endsAt_19 : decode (ab_bc mt_K_endsAt) 19 = .ok (.invokestatic 428, 3) := by decide +kernel
theorem d_K_endsAt_22 : decode (ab_bc mt_K_endsAt) 22 = .ok (.ireturn, 1) := by decide +kernel
-- CableKeeper.endsAt(I)I over kx
theorem q_K_endsAt_0 {w : ab_Wd} {d n nc ns : Nat} {I : Nat → Nat → Int32} {L : Nat → Nat → Int64} {res : ab_Re} (v1 : Int32) (hc : nc ≤ res.2.2.2.2.2.1) (hs : ns ≤ res.2.2.2.2.2.2)
    (h : ∃ (r1 : Int32), ab_C w d mt_Cables_endingAt [.ref kx_now_cables, .int v1] (I, L, ab_RR, n, nc, ns) (.inl (some (.int r1)), (I, L, ab_RR, n, nc, ns)) ∧ ∃ (r2 : Int32), ab_C w d mt_Integer_bitCount [.int ((I kx_forest 2) &&& r1)] (I, L, ab_RR, n, nc, ns) (.inl (some (.int r2)), (I, L, ab_RR, n, nc, ns)) ∧ res = (.inl (some (.int r2)), (I, L, ab_RR, n, nc, ns))) : ab_E w (d + 1) mt_K_endsAt 0 [.ref kx, .int v1] [] (I, L, ab_RR, n, nc, ns) res := by
  refine ab_aload_n (i := 0) d_K_endsAt_0 rfl rfl ?_
  refine ab_getR (ci := 10) (k := 6) (j := kx_forest) d_K_endsAt_1 v_478 rfl (by decide) (by decide) rfl r_kx_6 ?_
  refine ab_getI (ci := 2) (k := 2) d_K_endsAt_4 v_335 rfl (by decide) (by decide) rfl ?_
  refine ab_aload_n (i := 0) d_K_endsAt_7 rfl rfl ?_
  refine ab_getR (ci := 10) (k := 3) (j := kx_now) d_K_endsAt_8 v_475 rfl (by decide) (by decide) rfl r_kx_3 ?_
  refine ab_getR (ci := 6) (k := 0) (j := kx_now_cables) d_K_endsAt_11 v_294 rfl (by decide) (by decide) rfl r_kx_now_0 ?_
  refine ab_iload_n (i := 1) d_K_endsAt_14 rfl rfl ?_
  obtain ⟨r1, hC, h⟩ := h
  refine ab_callV (me2 := mt_Cables_endingAt) (b := kx_now_cables) (as := [.int v1]) (st := [.int (I kx_forest 2)]) (rv := (some (.int r1))) (M2 := (I, L, ab_RR, n, nc, ns)) d_K_endsAt_15 ce_Cables_endingAt v_960 v_961 v_962 (by decide) rfl (Nat.le_of_ble_eq_true rfl) hC (Nat.le_refl _) (Nat.le_refl _) hc hs (fun j h9 => by cases h9) (fun _ _ => rfl) ?_
  show ab_E w (d + 1) mt_K_endsAt 18 [.ref kx, .int v1] [.int r1, .int (I kx_forest 2)] (I, L, ab_RR, n, nc, ns) res
  refine ab_iand d_K_endsAt_18 ?_
  obtain ⟨r2, hC, h⟩ := h
  refine ab_callS (me2 := mt_Integer_bitCount) (as := [.int ((I kx_forest 2) &&& r1)]) (st := []) (rv := (some (.int r2))) (M2 := (I, L, ab_RR, n, nc, ns)) d_K_endsAt_19 ce_Integer_bitCount ⟨v_965, Or.inl v_964⟩ (Nat.le_of_ble_eq_true rfl) hC (Nat.le_refl _) (Nat.le_refl _) hc hs (fun j h9 => by cases h9) (fun _ _ => rfl) ?_
  show ab_E w (d + 1) mt_K_endsAt 22 [.ref kx, .int v1] [.int r2] (I, L, ab_RR, n, nc, ns) res
  exact ab_iret (ty := .int) d_K_endsAt_22 rfl rfl h
theorem d_K_hub_0 : decode (ab_bc mt_K_hub) 0 = .ok (.iconst 0, 1) := by decide +kernel
theorem d_K_hub_1 : decode (ab_bc mt_K_hub) 1 = .ok (.istore_n 1, 1) := by decide +kernel
theorem d_K_hub_2 : decode (ab_bc mt_K_hub) 2 = .ok (.aload_n 0, 1) := by decide +kernel
theorem d_K_hub_3 : decode (ab_bc mt_K_hub) 3 = .ok (.iconst 0, 1) := by decide +kernel
theorem d_K_hub_4 : decode (ab_bc mt_K_hub) 4 = .ok (.invokevirtual 242, 3) := by decide +kernel
theorem d_K_hub_7 : decode (ab_bc mt_K_hub) 7 = .ok (.istore_n 2, 1) := by decide +kernel
theorem d_K_hub_8 : decode (ab_bc mt_K_hub) 8 = .ok (.iconst 1, 1) := by decide +kernel
theorem d_K_hub_9 : decode (ab_bc mt_K_hub) 9 = .ok (.istore_n 3, 1) := by decide +kernel
theorem d_K_hub_10 : decode (ab_bc mt_K_hub) 10 = .ok (.iload_n 3, 1) := by decide +kernel
theorem d_K_hub_11 : decode (ab_bc mt_K_hub) 11 = .ok (.aload_n 0, 1) := by decide +kernel
theorem d_K_hub_12 : decode (ab_bc mt_K_hub) 12 = .ok (.getfield 23, 3) := by decide +kernel
theorem d_K_hub_15 : decode (ab_bc mt_K_hub) 15 = .ok (.getfield 110, 3) := by decide +kernel
theorem d_K_hub_18 : decode (ab_bc mt_K_hub) 18 = .ok (.getfield 113, 3) := by decide +kernel
theorem d_K_hub_21 : decode (ab_bc mt_K_hub) 21 = .ok (.if_icmp .ge 27, 3) := by decide +kernel
theorem d_K_hub_24 : decode (ab_bc mt_K_hub) 24 = .ok (.aload_n 0, 1) := by decide +kernel
theorem d_K_hub_25 : decode (ab_bc mt_K_hub) 25 = .ok (.iload_n 3, 1) := by decide +kernel
theorem d_K_hub_26 : decode (ab_bc mt_K_hub) 26 = .ok (.invokevirtual 242, 3) := by decide +kernel
theorem d_K_hub_29 : decode (ab_bc mt_K_hub) 29 = .ok (.istore 4, 2) := by decide +kernel
theorem d_K_hub_31 : decode (ab_bc mt_K_hub) 31 = .ok (.iload 4, 2) := by decide +kernel
theorem d_K_hub_33 : decode (ab_bc mt_K_hub) 33 = .ok (.iload_n 2, 1) := by decide +kernel
theorem d_K_hub_34 : decode (ab_bc mt_K_hub) 34 = .ok (.if_icmp .le 8, 3) := by decide +kernel
theorem d_K_hub_37 : decode (ab_bc mt_K_hub) 37 = .ok (.iload_n 3, 1) := by decide +kernel
theorem d_K_hub_38 : decode (ab_bc mt_K_hub) 38 = .ok (.istore_n 1, 1) := by decide +kernel
theorem d_K_hub_39 : decode (ab_bc mt_K_hub) 39 = .ok (.iload 4, 2) := by decide +kernel
theorem d_K_hub_41 : decode (ab_bc mt_K_hub) 41 = .ok (.istore_n 2, 1) := by decide +kernel
theorem d_K_hub_42 : decode (ab_bc mt_K_hub) 42 = .ok (.iinc 3 1, 3) := by decide +kernel
theorem d_K_hub_45 : decode (ab_bc mt_K_hub) 45 = .ok (.goto (-35), 3) := by decide +kernel
theorem d_K_hub_48 : decode (ab_bc mt_K_hub) 48 = .ok (.iload_n 1, 1) := by decide +kernel
theorem d_K_hub_49 : decode (ab_bc mt_K_hub) 49 = .ok (.ireturn, 1) := by decide +kernel
-- CableKeeper.hub()I over kx
theorem q_K_hub_0 {w : ab_Wd} {d n nc ns : Nat} {I : Nat → Nat → Int32} {L : Nat → Nat → Int64} {res : ab_Re}  (hc : nc ≤ res.2.2.2.2.2.1) (hs : ns ≤ res.2.2.2.2.2.2)
    (h : ∃ (r1 : Int32), ab_C w d mt_K_endsAt [.ref kx, .int 0] (I, L, ab_RR, n, nc, ns) (.inl (some (.int r1)), (I, L, ab_RR, n, nc, ns)) ∧ ab_E w (d + 1) mt_K_hub 10 [.ref kx, .int 0, .int r1, .int 1, .null] [] (I, L, ab_RR, n, nc, ns) res) : ab_E w (d + 1) mt_K_hub 0 [.ref kx, .null, .null, .null, .null] [] (I, L, ab_RR, n, nc, ns) res := by
  refine ab_iconst (v := 0) d_K_hub_0 rfl ?_
  refine ab_istore_n (i := 1) d_K_hub_1 rfl (by decide) (Or.inr rfl) ?_
  refine ab_aload_n (i := 0) d_K_hub_2 rfl rfl ?_
  refine ab_iconst (v := 0) d_K_hub_3 rfl ?_
  obtain ⟨r1, hC, h⟩ := h
  refine ab_callV (me2 := mt_K_endsAt) (b := kx) (as := [.int 0]) (st := []) (rv := (some (.int r1))) (M2 := (I, L, ab_RR, n, nc, ns)) d_K_hub_4 ce_K_endsAt v_956 v_958 v_32 (by decide) rfl (Nat.le_of_ble_eq_true rfl) hC (Nat.le_refl _) (Nat.le_refl _) hc hs (fun j h9 => by cases h9) (fun _ _ => rfl) ?_
  show ab_E w (d + 1) mt_K_hub 7 [.ref kx, .int 0, .null, .null, .null] [.int r1] (I, L, ab_RR, n, nc, ns) res
  refine ab_istore_n (i := 2) d_K_hub_7 rfl (by decide) (Or.inr rfl) ?_
  refine ab_iconst (v := 1) d_K_hub_8 rfl ?_
  refine ab_istore_n (i := 3) d_K_hub_9 rfl (by decide) (Or.inr rfl) ?_
  exact h
theorem q_K_hub_10 {w : ab_Wd} {d n nc ns : Nat} {I : Nat → Nat → Int32} {L : Nat → Nat → Int64} {res : ab_Re} (v1 : Int32) (v2 : Int32) (v3 : Int32) (hc : nc ≤ res.2.2.2.2.2.1) (hs : ns ≤ res.2.2.2.2.2.2)
    (h : (((I kx_now_cables 0) ≤ v3 → (res = (.inl (some (.int v1)), (I, L, ab_RR, n, nc, ns)))) ∧ (¬ (I kx_now_cables 0) ≤ v3 → (∃ (r2 : Int32), ab_C w d mt_K_endsAt [.ref kx, .int v3] (I, L, ab_RR, n, nc, ns) (.inl (some (.int r2)), (I, L, ab_RR, n, nc, ns)) ∧ ((r2 ≤ v2 → (ab_E w (d + 1) mt_K_hub 42 [.ref kx, .int v1, .int v2, .int v3, .int r2] [] (I, L, ab_RR, n, nc, ns) res)) ∧ (¬ r2 ≤ v2 → (ab_E w (d + 1) mt_K_hub 42 [.ref kx, .int v3, .int r2, .int v3, .int r2] [] (I, L, ab_RR, n, nc, ns) res))))))) : ab_E w (d + 1) mt_K_hub 10 [.ref kx, .int v1, .int v2, .int v3, .null] [] (I, L, ab_RR, n, nc, ns) res := by
  refine ab_iload_n (i := 3) d_K_hub_10 rfl rfl ?_
  refine ab_aload_n (i := 0) d_K_hub_11 rfl rfl ?_
  refine ab_getR (ci := 10) (k := 3) (j := kx_now) d_K_hub_12 v_475 rfl (by decide) (by decide) rfl r_kx_3 ?_
  refine ab_getR (ci := 6) (k := 0) (j := kx_now_cables) d_K_hub_15 v_294 rfl (by decide) (by decide) rfl r_kx_now_0 ?_
  refine ab_getI (ci := 1) (k := 0) d_K_hub_18 v_190 rfl (by decide) (by decide) rfl ?_
  refine ab_icmp_ge (tgt := 48) d_K_hub_21 (by decide) (fun c1 => ?_) (fun c1 => ?_)
  · have h := h.1 c1
    refine ab_iload_n (i := 1) d_K_hub_48 rfl rfl ?_
    exact ab_iret (ty := .int) d_K_hub_49 rfl rfl h
  · have h := h.2 c1
    refine ab_aload_n (i := 0) d_K_hub_24 rfl rfl ?_
    refine ab_iload_n (i := 3) d_K_hub_25 rfl rfl ?_
    obtain ⟨r2, hC, h⟩ := h
    refine ab_callV (me2 := mt_K_endsAt) (b := kx) (as := [.int v3]) (st := []) (rv := (some (.int r2))) (M2 := (I, L, ab_RR, n, nc, ns)) d_K_hub_26 ce_K_endsAt v_956 v_958 v_32 (by decide) rfl (Nat.le_of_ble_eq_true rfl) hC (Nat.le_refl _) (Nat.le_refl _) hc hs (fun j h9 => by cases h9) (fun _ _ => rfl) ?_
    show ab_E w (d + 1) mt_K_hub 29 [.ref kx, .int v1, .int v2, .int v3, .null] [.int r2] (I, L, ab_RR, n, nc, ns) res
    refine ab_istore (i := 4) d_K_hub_29 (by decide) (Or.inr rfl) ?_
    refine ab_iload (i := 4) d_K_hub_31 rfl ?_
    refine ab_iload_n (i := 2) d_K_hub_33 rfl rfl ?_
    refine ab_icmp_le (tgt := 42) d_K_hub_34 (by decide) (fun c3 => ?_) (fun c3 => ?_)
    · have h := h.1 c3
      exact h
    · have h := h.2 c3
      refine ab_iload_n (i := 3) d_K_hub_37 rfl rfl ?_
      refine ab_istore_n (i := 1) d_K_hub_38 rfl (by decide) (Or.inr rfl) ?_
      refine ab_iload (i := 4) d_K_hub_39 rfl ?_
      refine ab_istore_n (i := 2) d_K_hub_41 rfl (by decide) (Or.inr rfl) ?_
      exact h
theorem q_K_hub_42 {w : ab_Wd} {d n nc ns : Nat} {I : Nat → Nat → Int32} {L : Nat → Nat → Int64} {res : ab_Re} (v1 : Int32) (v2 : Int32) (v3 : Int32) (v4 : Int32) (hc : nc ≤ res.2.2.2.2.2.1) (hs : ns ≤ res.2.2.2.2.2.2)
    (h : ab_E w (d + 1) mt_K_hub 10 [.ref kx, .int v1, .int v2, .int (v3 + 1), .null] [] (I, L, ab_RR, n, nc, ns) res) : ab_E w (d + 1) mt_K_hub 42 [.ref kx, .int v1, .int v2, .int v3, .int v4] [] (I, L, ab_RR, n, nc, ns) res := by
  refine ab_iinc (i := 3) (v := (v3 + 1)) d_K_hub_42 rfl rfl (by decide) (Or.inr rfl) ?_
  refine ab_goto (tgt := 10) d_K_hub_45 (by decide) ?_
  refine ab_drop 4 ?_
  exact h
theorem d_K_twins_0 : decode (ab_bc mt_K_twins) 0 = .ok (.aload_n 0, 1) := by decide +kernel
theorem d_K_twins_1 : decode (ab_bc mt_K_twins) 1 = .ok (.getfield 51, 3) := by decide +kernel
theorem d_K_twins_4 : decode (ab_bc mt_K_twins) 4 = .ok (.aload_n 0, 1) := by decide +kernel
theorem d_K_twins_5 : decode (ab_bc mt_K_twins) 5 = .ok (.getfield 23, 3) := by decide +kernel
theorem d_K_twins_8 : decode (ab_bc mt_K_twins) 8 = .ok (.getfield 110, 3) := by decide +kernel
theorem d_K_twins_11 : decode (ab_bc mt_K_twins) 11 = .ok (.invokevirtual 396, 3) := by decide +kernel
theorem d_K_twins_14 : decode (ab_bc mt_K_twins) 14 = .ok (.iconst 0, 1) := by decide +kernel
theorem d_K_twins_15 : decode (ab_bc mt_K_twins) 15 = .ok (.istore_n 1, 1) := by decide +kernel
theorem d_K_twins_16 : decode (ab_bc mt_K_twins) 16 = .ok (.iload_n 1, 1) := by decide +kernel
theorem d_K_twins_17 : decode (ab_bc mt_K_twins) 17 = .ok (.aload_n 0, 1) := by decide +kernel
theorem d_K_twins_18 : decode (ab_bc mt_K_twins) 18 = .ok (.getfield 51, 3) := by decide +kernel
theorem d_K_twins_21 : decode (ab_bc mt_K_twins) 21 = .ok (.getfield 116, 3) := by decide +kernel
theorem d_K_twins_24 : decode (ab_bc mt_K_twins) 24 = .ok (.if_icmp .ge 31, 3) := by decide +kernel
theorem d_K_twins_27 : decode (ab_bc mt_K_twins) 27 = .ok (.aload_n 0, 1) := by decide +kernel
theorem d_K_twins_28 : decode (ab_bc mt_K_twins) 28 = .ok (.getfield 51, 3) := by decide +kernel
theorem d_K_twins_31 : decode (ab_bc mt_K_twins) 31 = .ok (.getfield 195, 3) := by decide +kernel
theorem d_K_twins_34 : decode (ab_bc mt_K_twins) 34 = .ok (.iload_n 1, 1) := by decide +kernel
theorem d_K_twins_35 : decode (ab_bc mt_K_twins) 35 = .ok (.sipush 1000, 3) := by decide +kernel
theorem d_K_twins_38 : decode (ab_bc mt_K_twins) 38 = .ok (.aload_n 0, 1) := by decide +kernel
theorem d_K_twins_39 : decode (ab_bc mt_K_twins) 39 = .ok (.getfield 51, 3) := by decide +kernel
theorem d_K_twins_42 : decode (ab_bc mt_K_twins) 42 = .ok (.getfield 195, 3) := by decide +kernel
theorem d_K_twins_45 : decode (ab_bc mt_K_twins) 45 = .ok (.iload_n 1, 1) := by decide +kernel
theorem d_K_twins_46 : decode (ab_bc mt_K_twins) 46 = .ok (.iaload, 1) := by decide +kernel
theorem d_K_twins_47 : decode (ab_bc mt_K_twins) 47 = .ok (.isub, 1) := by decide +kernel
theorem d_K_twins_48 : decode (ab_bc mt_K_twins) 48 = .ok (.iastore, 1) := by decide +kernel
theorem d_K_twins_49 : decode (ab_bc mt_K_twins) 49 = .ok (.iinc 1 1, 3) := by decide +kernel
theorem d_K_twins_52 : decode (ab_bc mt_K_twins) 52 = .ok (.goto (-36), 3) := by decide +kernel
theorem d_K_twins_55 : decode (ab_bc mt_K_twins) 55 = .ok (.aload_n 0, 1) := by decide +kernel
theorem d_K_twins_56 : decode (ab_bc mt_K_twins) 56 = .ok (.getfield 51, 3) := by decide +kernel
theorem d_K_twins_59 : decode (ab_bc mt_K_twins) 59 = .ok (.invokevirtual 362, 3) := by decide +kernel
theorem d_K_twins_62 : decode (ab_bc mt_K_twins) 62 = .ok (.aload_n 0, 1) := by decide +kernel
theorem d_K_twins_63 : decode (ab_bc mt_K_twins) 63 = .ok (.getfield 55, 3) := by decide +kernel
theorem d_K_twins_66 : decode (ab_bc mt_K_twins) 66 = .ok (.aload_n 0, 1) := by decide +kernel
theorem d_K_twins_67 : decode (ab_bc mt_K_twins) 67 = .ok (.getfield 51, 3) := by decide +kernel
theorem d_K_twins_70 : decode (ab_bc mt_K_twins) 70 = .ok (.aload_n 0, 1) := by decide +kernel
theorem d_K_twins_71 : decode (ab_bc mt_K_twins) 71 = .ok (.getfield 51, 3) := by decide +kernel
theorem d_K_twins_74 : decode (ab_bc mt_K_twins) 74 = .ok (.getfield 119, 3) := by decide +kernel
theorem d_K_twins_77 : decode (ab_bc mt_K_twins) 77 = .ok (.invokevirtual 287, 3) := by decide +kernel
theorem d_K_twins_80 : decode (ab_bc mt_K_twins) 80 = .ok (.aload_n 0, 1) := by decide +kernel
theorem d_K_twins_81 : decode (ab_bc mt_K_twins) 81 = .ok (.getfield 37, 3) := by decide +kernel
theorem d_K_twins_84 : decode (ab_bc mt_K_twins) 84 = .ok (.getfield 122, 3) := by decide +kernel
theorem d_K_twins_87 : decode (ab_bc mt_K_twins) 87 = .ok (.aload_n 0, 1) := by decide +kernel
theorem d_K_twins_88 : decode (ab_bc mt_K_twins) 88 = .ok (.getfield 55, 3) := by decide +kernel
theorem d_K_twins_91 : decode (ab_bc mt_K_twins) 91 = .ok (.getfield 122, 3) := by decide +kernel
theorem d_K_twins_94 : decode (ab_bc mt_K_twins) 94 = .ok (.iand, 1) := by decide +kernel
theorem d_K_twins_95 : decode (ab_bc mt_K_twins) 95 = .ok (.ireturn, 1) := by decide +kernel
-- CableKeeper.twins()I over kx
theorem q_K_twins_0 {w : ab_Wd} {d n nc ns : Nat} {I : Nat → Nat → Int32} {L : Nat → Nat → Int64} {res : ab_Re}  (hc : nc ≤ res.2.2.2.2.2.1) (hs : ns ≤ res.2.2.2.2.2.2)
    (h : ∃ (I2 : Nat → Nat → Int32), ab_C w d mt_Cables_copy [.ref kx_trial, .ref kx_now_cables] (I, L, ab_RR, n, nc, ns) (.inl none, (I2, L, ab_RR, n, nc, ns)) ∧ ab_E w (d + 1) mt_K_twins 16 [.ref kx, .int 0] [] (I2, L, ab_RR, n, nc, ns) res) : ab_E w (d + 1) mt_K_twins 0 [.ref kx, .null] [] (I, L, ab_RR, n, nc, ns) res := by
  refine ab_aload_n (i := 0) d_K_twins_0 rfl rfl ?_
  refine ab_getR (ci := 10) (k := 8) (j := kx_trial) d_K_twins_1 v_480 rfl (by decide) (by decide) rfl r_kx_8 ?_
  refine ab_aload_n (i := 0) d_K_twins_4 rfl rfl ?_
  refine ab_getR (ci := 10) (k := 3) (j := kx_now) d_K_twins_5 v_475 rfl (by decide) (by decide) rfl r_kx_3 ?_
  refine ab_getR (ci := 6) (k := 0) (j := kx_now_cables) d_K_twins_8 v_294 rfl (by decide) (by decide) rfl r_kx_now_0 ?_
  obtain ⟨I2, hC, h⟩ := h
  refine ab_callV (me2 := mt_Cables_copy) (b := kx_trial) (as := [.ref kx_now_cables]) (st := []) (rv := none) (M2 := (I2, L, ab_RR, n, nc, ns)) d_K_twins_11 ce_Cables_copy v_983 v_672 v_673 (by decide) rfl (Nat.le_of_ble_eq_true rfl) hC (Nat.le_refl _) (Nat.le_refl _) hc hs (fun j h9 => by cases h9) (fun _ _ => rfl) ?_
  show ab_E w (d + 1) mt_K_twins 14 [.ref kx, .null] [] (I2, L, ab_RR, n, nc, ns) res
  refine ab_iconst (v := 0) d_K_twins_14 rfl ?_
  refine ab_istore_n (i := 1) d_K_twins_15 rfl (by decide) (Or.inr rfl) ?_
  exact h
theorem q_K_twins_16 {w : ab_Wd} {d n nc ns : Nat} {I : Nat → Nat → Int32} {L : Nat → Nat → Int64} {res : ab_Re} (v1 : Int32) (hc : nc ≤ res.2.2.2.2.2.1) (hs : ns ≤ res.2.2.2.2.2.2)
    (h : (((I kx_trial 1) ≤ v1 → (∃ (I3 : Nat → Nat → Int32), ab_C w d mt_Cables_sort [.ref kx_trial] (I, L, ab_RR, n, nc, ns) (.inl none, (I3, L, ab_RR, n, nc, ns)) ∧ ∃ (I5 : Nat → Nat → Int32), ab_C w d mt_Forest_grow [.ref kx_trialNet, .ref kx_trial, .int (I3 kx_trial 2)] (I3, L, ab_RR, n, nc, ns) (.inl none, (I5, L, ab_RR, n, nc, ns)) ∧ res = (.inl (some (.int ((I5 kx_forest 2) &&& (I5 kx_trialNet 2)))), (I5, L, ab_RR, n, nc, ns)))) ∧ (¬ (I kx_trial 1) ≤ v1 → ((vp_in v1 24) ∧ ab_E w (d + 1) mt_K_twins 16 [.ref kx, .int (v1 + 1)] [] ((ab_up I kx_trial_price v1.toNatClampNeg (1000 - (I kx_trial_price v1.toNatClampNeg))), L, ab_RR, n, nc, ns) res)))) : ab_E w (d + 1) mt_K_twins 16 [.ref kx, .int v1] [] (I, L, ab_RR, n, nc, ns) res := by
  refine ab_iload_n (i := 1) d_K_twins_16 rfl rfl ?_
  refine ab_aload_n (i := 0) d_K_twins_17 rfl rfl ?_
  refine ab_getR (ci := 10) (k := 8) (j := kx_trial) d_K_twins_18 v_480 rfl (by decide) (by decide) rfl r_kx_8 ?_
  refine ab_getI (ci := 1) (k := 1) d_K_twins_21 v_199 rfl (by decide) (by decide) rfl ?_
  refine ab_icmp_ge (tgt := 55) d_K_twins_24 (by decide) (fun c1 => ?_) (fun c1 => ?_)
  · have h := h.1 c1
    refine ab_aload_n (i := 0) d_K_twins_55 rfl rfl ?_
    refine ab_getR (ci := 10) (k := 8) (j := kx_trial) d_K_twins_56 v_480 rfl (by decide) (by decide) rfl r_kx_8 ?_
    obtain ⟨I3, hC, h⟩ := h
    refine ab_callV (me2 := mt_Cables_sort) (b := kx_trial) (as := []) (st := []) (rv := none) (M2 := (I3, L, ab_RR, n, nc, ns)) d_K_twins_59 ce_Cables_sort v_591 v_592 v_593 (by decide) rfl (Nat.le_of_ble_eq_true rfl) hC (Nat.le_refl _) (Nat.le_refl _) hc hs (fun j h9 => by cases h9) (fun _ _ => rfl) ?_
    show ab_E w (d + 1) mt_K_twins 62 [.ref kx, .int v1] [] (I3, L, ab_RR, n, nc, ns) res
    refine ab_aload_n (i := 0) d_K_twins_62 rfl rfl ?_
    refine ab_getR (ci := 10) (k := 9) (j := kx_trialNet) d_K_twins_63 v_481 rfl (by decide) (by decide) rfl r_kx_9 ?_
    refine ab_aload_n (i := 0) d_K_twins_66 rfl rfl ?_
    refine ab_getR (ci := 10) (k := 8) (j := kx_trial) d_K_twins_67 v_480 rfl (by decide) (by decide) rfl r_kx_8 ?_
    refine ab_aload_n (i := 0) d_K_twins_70 rfl rfl ?_
    refine ab_getR (ci := 10) (k := 8) (j := kx_trial) d_K_twins_71 v_480 rfl (by decide) (by decide) rfl r_kx_8 ?_
    refine ab_getI (ci := 1) (k := 2) d_K_twins_74 v_202 rfl (by decide) (by decide) rfl ?_
    obtain ⟨I5, hC, h⟩ := h
    refine ab_callV (me2 := mt_Forest_grow) (b := kx_trialNet) (as := [.ref kx_trial, .int (I3 kx_trial 2)]) (st := []) (rv := none) (M2 := (I5, L, ab_RR, n, nc, ns)) d_K_twins_77 ce_Forest_grow v_440 v_441 v_442 (by decide) rfl (Nat.le_of_ble_eq_true rfl) hC (Nat.le_refl _) (Nat.le_refl _) hc hs (fun j h9 => by cases h9) (fun _ _ => rfl) ?_
    show ab_E w (d + 1) mt_K_twins 80 [.ref kx, .int v1] [] (I5, L, ab_RR, n, nc, ns) res
    refine ab_aload_n (i := 0) d_K_twins_80 rfl rfl ?_
    refine ab_getR (ci := 10) (k := 6) (j := kx_forest) d_K_twins_81 v_478 rfl (by decide) (by decide) rfl r_kx_6 ?_
    refine ab_getI (ci := 2) (k := 2) d_K_twins_84 v_335 rfl (by decide) (by decide) rfl ?_
    refine ab_aload_n (i := 0) d_K_twins_87 rfl rfl ?_
    refine ab_getR (ci := 10) (k := 9) (j := kx_trialNet) d_K_twins_88 v_481 rfl (by decide) (by decide) rfl r_kx_9 ?_
    refine ab_getI (ci := 2) (k := 2) d_K_twins_91 v_335 rfl (by decide) (by decide) rfl ?_
    refine ab_iand d_K_twins_94 ?_
    exact ab_iret (ty := .int) d_K_twins_95 rfl rfl h
  · have h := h.2 c1
    refine ab_aload_n (i := 0) d_K_twins_27 rfl rfl ?_
    refine ab_getR (ci := 10) (k := 8) (j := kx_trial) d_K_twins_28 v_480 rfl (by decide) (by decide) rfl r_kx_8 ?_
    refine ab_getR (ci := 1) (k := 5) (j := kx_trial_price) d_K_twins_31 v_224 rfl (by decide) (by decide) rfl r_kx_trial_5 ?_
    refine ab_iload_n (i := 1) d_K_twins_34 rfl rfl ?_
    refine ab_sipush (v := 1000) d_K_twins_35 rfl ?_
    refine ab_aload_n (i := 0) d_K_twins_38 rfl rfl ?_
    refine ab_getR (ci := 10) (k := 8) (j := kx_trial) d_K_twins_39 v_480 rfl (by decide) (by decide) rfl r_kx_8 ?_
    refine ab_getR (ci := 1) (k := 5) (j := kx_trial_price) d_K_twins_42 v_224 rfl (by decide) (by decide) rfl r_kx_trial_5 ?_
    refine ab_iload_n (i := 1) d_K_twins_45 rfl rfl ?_
    have g6 := h.1; have h := h.2
    refine ab_iald d_K_twins_46 rfl rfl g6 ?_
    refine ab_isub d_K_twins_47 ?_
    refine ab_iast d_K_twins_48 rfl rfl g6 ?_
    refine ab_iinc (i := 1) (v := (v1 + 1)) d_K_twins_49 rfl rfl (by decide) (Or.inr rfl) ?_
    refine ab_goto (tgt := 16) d_K_twins_52 (by decide) ?_
    exact h
theorem d_K_ringsWith_0 : decode (ab_bc mt_K_ringsWith) 0 = .ok (.aload_n 0, 1) := by decide +kernel
theorem d_K_ringsWith_1 : decode (ab_bc mt_K_ringsWith) 1 = .ok (.iload_n 1, 1) := by decide +kernel
theorem d_K_ringsWith_2 : decode (ab_bc mt_K_ringsWith) 2 = .ok (.invokevirtual 414, 3) := by decide +kernel
theorem d_K_ringsWith_5 : decode (ab_bc mt_K_ringsWith) 5 = .ok (.ifCond .eq 7, 3) := by decide +kernel
theorem d_K_ringsWith_8 : decode (ab_bc mt_K_ringsWith) 8 = .ok (.iconst 1, 1) := by decide +kernel
theorem d_K_ringsWith_9 : decode (ab_bc mt_K_ringsWith) 9 = .ok (.iload_n 1, 1) := by decide +kernel
theorem d_K_ringsWith_10 : decode (ab_bc mt_K_ringsWith) 10 = .ok (.ishl, 1) := by decide +kernel
theorem d_K_ringsWith_11 : decode (ab_bc mt_K_ringsWith) 11 = .ok (.ireturn, 1) := by decide +kernel
theorem d_K_ringsWith_12 : decode (ab_bc mt_K_ringsWith) 12 = .ok (.aload_n 0, 1) := by decide +kernel
theorem d_K_ringsWith_13 : decode (ab_bc mt_K_ringsWith) 13 = .ok (.iload_n 1, 1) := by decide +kernel
theorem d_K_ringsWith_14 : decode (ab_bc mt_K_ringsWith) 14 = .ok (.invokevirtual 214, 3) := by decide +kernel
theorem d_K_ringsWith_17 : decode (ab_bc mt_K_ringsWith) 17 = .ok (.istore_n 2, 1) := by decide +kernel
theorem d_K_ringsWith_18 : decode (ab_bc mt_K_ringsWith) 18 = .ok (.iconst 0, 1) := by decide +kernel
theorem d_K_ringsWith_19 : decode (ab_bc mt_K_ringsWith) 19 = .ok (.istore_n 3, 1) := by decide +kernel
theorem d_K_ringsWith_20 : decode (ab_bc mt_K_ringsWith) 20 = .ok (.iconst 0, 1) := by decide +kernel
theorem d_K_ringsWith_21 : decode (ab_bc mt_K_ringsWith) 21 = .ok (.istore 4, 2) := by decide +kernel
theorem d_K_ringsWith_23 : decode (ab_bc mt_K_ringsWith) 23 = .ok (.iload 4, 2) := by decide +kernel
theorem d_K_ringsWith_25 : decode (ab_bc mt_K_ringsWith) 25 = .ok (.aload_n 0, 1) := by decide +kernel
theorem d_K_ringsWith_26 : decode (ab_bc mt_K_ringsWith) 26 = .ok (.getfield 23, 3) := by decide +kernel
theorem d_K_ringsWith_29 : decode (ab_bc mt_K_ringsWith) 29 = .ok (.getfield 110, 3) := by decide +kernel
theorem d_K_ringsWith_32 : decode (ab_bc mt_K_ringsWith) 32 = .ok (.getfield 116, 3) := by decide +kernel
theorem d_K_ringsWith_35 : decode (ab_bc mt_K_ringsWith) 35 = .ok (.if_icmp .ge 41, 3) := by decide +kernel
theorem d_K_ringsWith_38 : decode (ab_bc mt_K_ringsWith) 38 = .ok (.aload_n 0, 1) := by decide +kernel
theorem d_K_ringsWith_39 : decode (ab_bc mt_K_ringsWith) 39 = .ok (.iload 4, 2) := by decide +kernel
theorem d_K_ringsWith_41 : decode (ab_bc mt_K_ringsWith) 41 = .ok (.invokevirtual 414, 3) := by decide +kernel
theorem d_K_ringsWith_44 : decode (ab_bc mt_K_ringsWith) 44 = .ok (.ifCond .eq 26, 3) := by decide +kernel
theorem d_K_ringsWith_47 : decode (ab_bc mt_K_ringsWith) 47 = .ok (.aload_n 0, 1) := by decide +kernel
theorem d_K_ringsWith_48 : decode (ab_bc mt_K_ringsWith) 48 = .ok (.getfield 23, 3) := by decide +kernel
theorem d_K_ringsWith_51 : decode (ab_bc mt_K_ringsWith) 51 = .ok (.getfield 110, 3) := by decide +kernel
theorem d_K_ringsWith_54 : decode (ab_bc mt_K_ringsWith) 54 = .ok (.iload 4, 2) := by decide +kernel
theorem d_K_ringsWith_56 : decode (ab_bc mt_K_ringsWith) 56 = .ok (.iload_n 2, 1) := by decide +kernel
theorem d_K_ringsWith_57 : decode (ab_bc mt_K_ringsWith) 57 = .ok (.invokevirtual 421, 3) := by decide +kernel
theorem d_K_ringsWith_60 : decode (ab_bc mt_K_ringsWith) 60 = .ok (.ifCond .eq 10, 3) := by decide +kernel
theorem d_K_ringsWith_63 : decode (ab_bc mt_K_ringsWith) 63 = .ok (.iload_n 3, 1) := by decide +kernel
theorem d_K_ringsWith_64 : decode (ab_bc mt_K_ringsWith) 64 = .ok (.iconst 1, 1) := by decide +kernel
theorem d_K_ringsWith_65 : decode (ab_bc mt_K_ringsWith) 65 = .ok (.iload 4, 2) := by decide +kernel
theorem d_K_ringsWith_67 : decode (ab_bc mt_K_ringsWith) 67 = .ok (.ishl, 1) := by decide +kernel
theorem d_K_ringsWith_68 : decode (ab_bc mt_K_ringsWith) 68 = .ok (.ior, 1) := by decide +kernel
theorem d_K_ringsWith_69 : decode (ab_bc mt_K_ringsWith) 69 = .ok (.istore_n 3, 1) := by decide +kernel
theorem d_K_ringsWith_70 : decode (ab_bc mt_K_ringsWith) 70 = .ok (.iinc 4 1, 3) := by decide +kernel
theorem d_K_ringsWith_73 : decode (ab_bc mt_K_ringsWith) 73 = .ok (.goto (-50), 3) := by decide +kernel
theorem d_K_ringsWith_76 : decode (ab_bc mt_K_ringsWith) 76 = .ok (.iload_n 3, 1) := by decide +kernel
theorem d_K_ringsWith_77 : decode (ab_bc mt_K_ringsWith) 77 = .ok (.ireturn, 1) := by decide +kernel
-- CableKeeper.ringsWith(I)I over kx
theorem q_K_ringsWith_0 {w : ab_Wd} {d n nc ns : Nat} {I : Nat → Nat → Int32} {L : Nat → Nat → Int64} {res : ab_Re} (v1 : Int32) (hc : nc ≤ res.2.2.2.2.2.1) (hs : ns ≤ res.2.2.2.2.2.2)
    (h : ∃ (r1 : Int32), ab_C w d mt_K_isOutside [.ref kx, .int v1] (I, L, ab_RR, n, nc, ns) (.inl (some (.int r1)), (I, L, ab_RR, n, nc, ns)) ∧ ((r1 = 0 → (∃ (r3 : Int32), ab_C w d mt_K_cutOf [.ref kx, .int v1] (I, L, ab_RR, n, nc, ns) (.inl (some (.int r3)), (I, L, ab_RR, n, nc, ns)) ∧ ab_E w (d + 1) mt_K_ringsWith 23 [.ref kx, .int v1, .int r3, .int 0, .int 0] [] (I, L, ab_RR, n, nc, ns) res)) ∧ (¬ r1 = 0 → (res = (.inl (some (.int ((1 : Int32) <<< (v1 &&& 31)))), (I, L, ab_RR, n, nc, ns)))))) : ab_E w (d + 1) mt_K_ringsWith 0 [.ref kx, .int v1, .null, .null, .null] [] (I, L, ab_RR, n, nc, ns) res := by
  refine ab_aload_n (i := 0) d_K_ringsWith_0 rfl rfl ?_
  refine ab_iload_n (i := 1) d_K_ringsWith_1 rfl rfl ?_
  obtain ⟨r1, hC, h⟩ := h
  refine ab_callV (me2 := mt_K_isOutside) (b := kx) (as := [.int v1]) (st := []) (rv := (some (.int r1))) (M2 := (I, L, ab_RR, n, nc, ns)) d_K_ringsWith_2 ce_K_isOutside v_940 v_942 v_29 (by decide) rfl (Nat.le_of_ble_eq_true rfl) hC (Nat.le_refl _) (Nat.le_refl _) hc hs (fun j h9 => by cases h9) (fun _ _ => rfl) ?_
  show ab_E w (d + 1) mt_K_ringsWith 5 [.ref kx, .int v1, .null, .null, .null] [.int r1] (I, L, ab_RR, n, nc, ns) res
  refine ab_if_eq (tgt := 12) d_K_ringsWith_5 (by decide) (fun c2 => ?_) (fun c2 => ?_)
  · have h := h.1 c2
    refine ab_aload_n (i := 0) d_K_ringsWith_12 rfl rfl ?_
    refine ab_iload_n (i := 1) d_K_ringsWith_13 rfl rfl ?_
    obtain ⟨r3, hC, h⟩ := h
    refine ab_callV (me2 := mt_K_cutOf) (b := kx) (as := [.int v1]) (st := []) (rv := (some (.int r3))) (M2 := (I, L, ab_RR, n, nc, ns)) d_K_ringsWith_14 ce_K_cutOf v_996 v_998 v_37 (by decide) rfl (Nat.le_of_ble_eq_true rfl) hC (Nat.le_refl _) (Nat.le_refl _) hc hs (fun j h9 => by cases h9) (fun _ _ => rfl) ?_
    show ab_E w (d + 1) mt_K_ringsWith 17 [.ref kx, .int v1, .null, .null, .null] [.int r3] (I, L, ab_RR, n, nc, ns) res
    refine ab_istore_n (i := 2) d_K_ringsWith_17 rfl (by decide) (Or.inr rfl) ?_
    refine ab_iconst (v := 0) d_K_ringsWith_18 rfl ?_
    refine ab_istore_n (i := 3) d_K_ringsWith_19 rfl (by decide) (Or.inr rfl) ?_
    refine ab_iconst (v := 0) d_K_ringsWith_20 rfl ?_
    refine ab_istore (i := 4) d_K_ringsWith_21 (by decide) (Or.inr rfl) ?_
    exact h
  · have h := h.2 c2
    refine ab_iconst (v := 1) d_K_ringsWith_8 rfl ?_
    refine ab_iload_n (i := 1) d_K_ringsWith_9 rfl rfl ?_
    refine ab_ishl d_K_ringsWith_10 ?_
    exact ab_iret (ty := .int) d_K_ringsWith_11 rfl rfl h
theorem q_K_ringsWith_23 {w : ab_Wd} {d n nc ns : Nat} {I : Nat → Nat → Int32} {L : Nat → Nat → Int64} {res : ab_Re} (v1 : Int32) (v2 : Int32) (v3 : Int32) (v4 : Int32) (hc : nc ≤ res.2.2.2.2.2.1) (hs : ns ≤ res.2.2.2.2.2.2)
    (h : (((I kx_now_cables 1) ≤ v4 → (res = (.inl (some (.int v3)), (I, L, ab_RR, n, nc, ns)))) ∧ (¬ (I kx_now_cables 1) ≤ v4 → (∃ (r2 : Int32), ab_C w d mt_K_isOutside [.ref kx, .int v4] (I, L, ab_RR, n, nc, ns) (.inl (some (.int r2)), (I, L, ab_RR, n, nc, ns)) ∧ ((r2 = 0 → (ab_E w (d + 1) mt_K_ringsWith 70 [.ref kx, .int v1, .int v2, .int v3, .int v4] [] (I, L, ab_RR, n, nc, ns) res)) ∧ (¬ r2 = 0 → (∃ (r4 : Int32), ab_C w d mt_Cables_crosses [.ref kx_now_cables, .int v4, .int v2] (I, L, ab_RR, n, nc, ns) (.inl (some (.int r4)), (I, L, ab_RR, n, nc, ns)) ∧ ((r4 = 0 → (ab_E w (d + 1) mt_K_ringsWith 70 [.ref kx, .int v1, .int v2, .int v3, .int v4] [] (I, L, ab_RR, n, nc, ns) res)) ∧ (¬ r4 = 0 → (ab_E w (d + 1) mt_K_ringsWith 70 [.ref kx, .int v1, .int v2, .int (v3 ||| ((1 : Int32) <<< (v4 &&& 31))), .int v4] [] (I, L, ab_RR, n, nc, ns) res)))))))))) : ab_E w (d + 1) mt_K_ringsWith 23 [.ref kx, .int v1, .int v2, .int v3, .int v4] [] (I, L, ab_RR, n, nc, ns) res := by
  refine ab_iload (i := 4) d_K_ringsWith_23 rfl ?_
  refine ab_aload_n (i := 0) d_K_ringsWith_25 rfl rfl ?_
  refine ab_getR (ci := 10) (k := 3) (j := kx_now) d_K_ringsWith_26 v_475 rfl (by decide) (by decide) rfl r_kx_3 ?_
  refine ab_getR (ci := 6) (k := 0) (j := kx_now_cables) d_K_ringsWith_29 v_294 rfl (by decide) (by decide) rfl r_kx_now_0 ?_
  refine ab_getI (ci := 1) (k := 1) d_K_ringsWith_32 v_199 rfl (by decide) (by decide) rfl ?_
  refine ab_icmp_ge (tgt := 76) d_K_ringsWith_35 (by decide) (fun c1 => ?_) (fun c1 => ?_)
  · have h := h.1 c1
    refine ab_iload_n (i := 3) d_K_ringsWith_76 rfl rfl ?_
    exact ab_iret (ty := .int) d_K_ringsWith_77 rfl rfl h
  · have h := h.2 c1
    refine ab_aload_n (i := 0) d_K_ringsWith_38 rfl rfl ?_
    refine ab_iload (i := 4) d_K_ringsWith_39 rfl ?_
    obtain ⟨r2, hC, h⟩ := h
    refine ab_callV (me2 := mt_K_isOutside) (b := kx) (as := [.int v4]) (st := []) (rv := (some (.int r2))) (M2 := (I, L, ab_RR, n, nc, ns)) d_K_ringsWith_41 ce_K_isOutside v_940 v_942 v_29 (by decide) rfl (Nat.le_of_ble_eq_true rfl) hC (Nat.le_refl _) (Nat.le_refl _) hc hs (fun j h9 => by cases h9) (fun _ _ => rfl) ?_
    show ab_E w (d + 1) mt_K_ringsWith 44 [.ref kx, .int v1, .int v2, .int v3, .int v4] [.int r2] (I, L, ab_RR, n, nc, ns) res
    refine ab_if_eq (tgt := 70) d_K_ringsWith_44 (by decide) (fun c3 => ?_) (fun c3 => ?_)
    · have h := h.1 c3
      exact h
    · have h := h.2 c3
      refine ab_aload_n (i := 0) d_K_ringsWith_47 rfl rfl ?_
      refine ab_getR (ci := 10) (k := 3) (j := kx_now) d_K_ringsWith_48 v_475 rfl (by decide) (by decide) rfl r_kx_3 ?_
      refine ab_getR (ci := 6) (k := 0) (j := kx_now_cables) d_K_ringsWith_51 v_294 rfl (by decide) (by decide) rfl r_kx_now_0 ?_
      refine ab_iload (i := 4) d_K_ringsWith_54 rfl ?_
      refine ab_iload_n (i := 2) d_K_ringsWith_56 rfl rfl ?_
      obtain ⟨r4, hC, h⟩ := h
      refine ab_callV (me2 := mt_Cables_crosses) (b := kx_now_cables) (as := [.int v4, .int v2]) (st := []) (rv := (some (.int r4))) (M2 := (I, L, ab_RR, n, nc, ns)) d_K_ringsWith_57 ce_Cables_crosses v_1008 v_1009 v_1010 (by decide) rfl (Nat.le_of_ble_eq_true rfl) hC (Nat.le_refl _) (Nat.le_refl _) hc hs (fun j h9 => by cases h9) (fun _ _ => rfl) ?_
      show ab_E w (d + 1) mt_K_ringsWith 60 [.ref kx, .int v1, .int v2, .int v3, .int v4] [.int r4] (I, L, ab_RR, n, nc, ns) res
      refine ab_if_eq (tgt := 70) d_K_ringsWith_60 (by decide) (fun c5 => ?_) (fun c5 => ?_)
      · have h := h.1 c5
        exact h
      · have h := h.2 c5
        refine ab_iload_n (i := 3) d_K_ringsWith_63 rfl rfl ?_
        refine ab_iconst (v := 1) d_K_ringsWith_64 rfl ?_
        refine ab_iload (i := 4) d_K_ringsWith_65 rfl ?_
        refine ab_ishl d_K_ringsWith_67 ?_
        refine ab_ior d_K_ringsWith_68 ?_
        refine ab_istore_n (i := 3) d_K_ringsWith_69 rfl (by decide) (Or.inr rfl) ?_
        exact h
theorem q_K_ringsWith_70 {w : ab_Wd} {d n nc ns : Nat} {I : Nat → Nat → Int32} {L : Nat → Nat → Int64} {res : ab_Re} (v1 : Int32) (v2 : Int32) (v3 : Int32) (v4 : Int32) (hc : nc ≤ res.2.2.2.2.2.1) (hs : ns ≤ res.2.2.2.2.2.2)
    (h : ab_E w (d + 1) mt_K_ringsWith 23 [.ref kx, .int v1, .int v2, .int v3, .int (v4 + 1)] [] (I, L, ab_RR, n, nc, ns) res) : ab_E w (d + 1) mt_K_ringsWith 70 [.ref kx, .int v1, .int v2, .int v3, .int v4] [] (I, L, ab_RR, n, nc, ns) res := by
  refine ab_iinc (i := 4) (v := (v4 + 1)) d_K_ringsWith_70 rfl rfl (by decide) (Or.inr rfl) ?_
  refine ab_goto (tgt := 23) d_K_ringsWith_73 (by decide) ?_
  exact h
theorem d_K_markRings_0 : decode (ab_bc mt_K_markRings) 0 = .ok (.iconst 0, 1) := by decide +kernel
theorem d_K_markRings_1 : decode (ab_bc mt_K_markRings) 1 = .ok (.istore_n 1, 1) := by decide +kernel
theorem d_K_markRings_2 : decode (ab_bc mt_K_markRings) 2 = .ok (.iload_n 1, 1) := by decide +kernel
theorem d_K_markRings_3 : decode (ab_bc mt_K_markRings) 3 = .ok (.aload_n 0, 1) := by decide +kernel
theorem d_K_markRings_4 : decode (ab_bc mt_K_markRings) 4 = .ok (.getfield 23, 3) := by decide +kernel
theorem d_K_markRings_7 : decode (ab_bc mt_K_markRings) 7 = .ok (.getfield 110, 3) := by decide +kernel
theorem d_K_markRings_10 : decode (ab_bc mt_K_markRings) 10 = .ok (.getfield 116, 3) := by decide +kernel
theorem d_K_markRings_13 : decode (ab_bc mt_K_markRings) 13 = .ok (.if_icmp .ge 20, 3) := by decide +kernel
theorem d_K_markRings_16 : decode (ab_bc mt_K_markRings) 16 = .ok (.aload_n 0, 1) := by decide +kernel
theorem d_K_markRings_17 : decode (ab_bc mt_K_markRings) 17 = .ok (.getfield 58, 3) := by decide +kernel
theorem d_K_markRings_20 : decode (ab_bc mt_K_markRings) 20 = .ok (.iload_n 1, 1) := by decide +kernel
theorem d_K_markRings_21 : decode (ab_bc mt_K_markRings) 21 = .ok (.aload_n 0, 1) := by decide +kernel
theorem d_K_markRings_22 : decode (ab_bc mt_K_markRings) 22 = .ok (.iload_n 1, 1) := by decide +kernel
theorem d_K_markRings_23 : decode (ab_bc mt_K_markRings) 23 = .ok (.invokevirtual 433, 3) := by decide +kernel
theorem d_K_markRings_26 : decode (ab_bc mt_K_markRings) 26 = .ok (.iastore, 1) := by decide +kernel
theorem d_K_markRings_27 : decode (ab_bc mt_K_markRings) 27 = .ok (.iinc 1 1, 3) := by decide +kernel
theorem d_K_markRings_30 : decode (ab_bc mt_K_markRings) 30 = .ok (.goto (-28), 3) := by decide +kernel
theorem d_K_markRings_33 : decode (ab_bc mt_K_markRings) 33 = .ok (.return_, 1) := by decide +kernel
-- CableKeeper.markRings()V over kx
theorem q_K_markRings_0 {w : ab_Wd} {d n nc ns : Nat} {I : Nat → Nat → Int32} {L : Nat → Nat → Int64} {res : ab_Re}  (hc : nc ≤ res.2.2.2.2.2.1) (hs : ns ≤ res.2.2.2.2.2.2)
    (h : ab_E w (d + 1) mt_K_markRings 2 [.ref kx, .int 0] [] (I, L, ab_RR, n, nc, ns) res) : ab_E w (d + 1) mt_K_markRings 0 [.ref kx, .null] [] (I, L, ab_RR, n, nc, ns) res := by
  refine ab_iconst (v := 0) d_K_markRings_0 rfl ?_
  refine ab_istore_n (i := 1) d_K_markRings_1 rfl (by decide) (Or.inr rfl) ?_
  exact h
theorem q_K_markRings_2 {w : ab_Wd} {d n nc ns : Nat} {I : Nat → Nat → Int32} {L : Nat → Nat → Int64} {res : ab_Re} (v1 : Int32) (hc : nc ≤ res.2.2.2.2.2.1) (hs : ns ≤ res.2.2.2.2.2.2)
    (h : (((I kx_now_cables 1) ≤ v1 → (res = (.inl none, (I, L, ab_RR, n, nc, ns)))) ∧ (¬ (I kx_now_cables 1) ≤ v1 → (∃ (r2 : Int32), ab_C w d mt_K_ringsWith [.ref kx, .int v1] (I, L, ab_RR, n, nc, ns) (.inl (some (.int r2)), (I, L, ab_RR, n, nc, ns)) ∧ (vp_in v1 24) ∧ ab_E w (d + 1) mt_K_markRings 2 [.ref kx, .int (v1 + 1)] [] ((ab_up I kx_rings v1.toNatClampNeg r2), L, ab_RR, n, nc, ns) res)))) : ab_E w (d + 1) mt_K_markRings 2 [.ref kx, .int v1] [] (I, L, ab_RR, n, nc, ns) res := by
  refine ab_iload_n (i := 1) d_K_markRings_2 rfl rfl ?_
  refine ab_aload_n (i := 0) d_K_markRings_3 rfl rfl ?_
  refine ab_getR (ci := 10) (k := 3) (j := kx_now) d_K_markRings_4 v_475 rfl (by decide) (by decide) rfl r_kx_3 ?_
  refine ab_getR (ci := 6) (k := 0) (j := kx_now_cables) d_K_markRings_7 v_294 rfl (by decide) (by decide) rfl r_kx_now_0 ?_
  refine ab_getI (ci := 1) (k := 1) d_K_markRings_10 v_199 rfl (by decide) (by decide) rfl ?_
  refine ab_icmp_ge (tgt := 33) d_K_markRings_13 (by decide) (fun c1 => ?_) (fun c1 => ?_)
  · have h := h.1 c1
    exact ab_vret d_K_markRings_33 rfl h
  · have h := h.2 c1
    refine ab_aload_n (i := 0) d_K_markRings_16 rfl rfl ?_
    refine ab_getR (ci := 10) (k := 10) (j := kx_rings) d_K_markRings_17 v_482 rfl (by decide) (by decide) rfl r_kx_10 ?_
    refine ab_iload_n (i := 1) d_K_markRings_20 rfl rfl ?_
    refine ab_aload_n (i := 0) d_K_markRings_21 rfl rfl ?_
    refine ab_iload_n (i := 1) d_K_markRings_22 rfl rfl ?_
    obtain ⟨r2, hC, h⟩ := h
    refine ab_callV (me2 := mt_K_ringsWith) (b := kx) (as := [.int v1]) (st := [.int v1, .ref kx_rings]) (rv := (some (.int r2))) (M2 := (I, L, ab_RR, n, nc, ns)) d_K_markRings_23 ce_K_ringsWith v_992 v_994 v_36 (by decide) rfl (Nat.le_of_ble_eq_true rfl) hC (Nat.le_refl _) (Nat.le_refl _) hc hs (fun j h9 => by cases h9) (fun _ _ => rfl) ?_
    show ab_E w (d + 1) mt_K_markRings 26 [.ref kx, .int v1] [.int r2, .int v1, .ref kx_rings] (I, L, ab_RR, n, nc, ns) res
    have g3 := h.1; have h := h.2
    refine ab_iast d_K_markRings_26 rfl rfl g3 ?_
    refine ab_iinc (i := 1) (v := (v1 + 1)) d_K_markRings_27 rfl rfl (by decide) (Or.inr rfl) ?_
    refine ab_goto (tgt := 2) d_K_markRings_30 (by decide) ?_
    exact h
theorem d_K_isWeak_0 : decode (ab_bc mt_K_isWeak) 0 = .ok (.aload_n 0, 1) := by decide +kernel
theorem d_K_isWeak_1 : decode (ab_bc mt_K_isWeak) 1 = .ok (.getfield 58, 3) := by decide +kernel
theorem d_K_isWeak_4 : decode (ab_bc mt_K_isWeak) 4 = .ok (.iload_n 1, 1) := by decide +kernel
theorem d_K_isWeak_5 : decode (ab_bc mt_K_isWeak) 5 = .ok (.iaload, 1) := by decide +kernel
theorem d_K_isWeak_6 : decode (ab_bc mt_K_isWeak) 6 = .ok (.ifCond .eq 22, 3) := by decide +kernel
theorem d_K_isWeak_9 : decode (ab_bc mt_K_isWeak) 9 = .ok (.aload_n 0, 1) := by decide +kernel
theorem d_K_isWeak_10 : decode (ab_bc mt_K_isWeak) 10 = .ok (.getfield 58, 3) := by decide +kernel
theorem d_K_isWeak_13 : decode (ab_bc mt_K_isWeak) 13 = .ok (.iload_n 1, 1) := by decide +kernel
theorem d_K_isWeak_14 : decode (ab_bc mt_K_isWeak) 14 = .ok (.iaload, 1) := by decide +kernel
theorem d_K_isWeak_15 : decode (ab_bc mt_K_isWeak) 15 = .ok (.aload_n 0, 1) := by decide +kernel
theorem d_K_isWeak_16 : decode (ab_bc mt_K_isWeak) 16 = .ok (.getfield 58, 3) := by decide +kernel
theorem d_K_isWeak_19 : decode (ab_bc mt_K_isWeak) 19 = .ok (.iload_n 2, 1) := by decide +kernel
theorem d_K_isWeak_20 : decode (ab_bc mt_K_isWeak) 20 = .ok (.iaload, 1) := by decide +kernel
theorem d_K_isWeak_21 : decode (ab_bc mt_K_isWeak) 21 = .ok (.if_icmp .ne 7, 3) := by decide +kernel
theorem d_K_isWeak_24 : decode (ab_bc mt_K_isWeak) 24 = .ok (.iconst 1, 1) := by decide +kernel
theorem d_K_isWeak_25 : decode (ab_bc mt_K_isWeak) 25 = .ok (.goto 4, 3) := by decide +kernel
theorem d_K_isWeak_28 : decode (ab_bc mt_K_isWeak) 28 = .ok (.iconst 0, 1) := by decide +kernel
theorem d_K_isWeak_29 : decode (ab_bc mt_K_isWeak) 29 = .ok (.ireturn, 1) := by decide +kernel
-- CableKeeper.isWeak(II)Z over kx
theorem q_K_isWeak_0 {w : ab_Wd} {d n nc ns : Nat} {I : Nat → Nat → Int32} {L : Nat → Nat → Int64} {res : ab_Re} (v1 : Int32) (v2 : Int32) (hc : nc ≤ res.2.2.2.2.2.1) (hs : ns ≤ res.2.2.2.2.2.2)
    (h : (vp_in v1 24) ∧ (((I kx_rings v1.toNatClampNeg) = 0 → (ab_E w d mt_K_isWeak 28 [.ref kx, .int v1, .int v2] [] (I, L, ab_RR, n, nc, ns) res)) ∧ (¬ (I kx_rings v1.toNatClampNeg) = 0 → ((vp_in v2 24) ∧ ((¬ (I kx_rings v1.toNatClampNeg) = (I kx_rings v2.toNatClampNeg) → (ab_E w d mt_K_isWeak 28 [.ref kx, .int v1, .int v2] [] (I, L, ab_RR, n, nc, ns) res)) ∧ ((I kx_rings v1.toNatClampNeg) = (I kx_rings v2.toNatClampNeg) → (ab_E w d mt_K_isWeak 29 [.ref kx, .int v1, .int v2] [.int 1] (I, L, ab_RR, n, nc, ns) res))))))) : ab_E w d mt_K_isWeak 0 [.ref kx, .int v1, .int v2] [] (I, L, ab_RR, n, nc, ns) res := by
  refine ab_aload_n (i := 0) d_K_isWeak_0 rfl rfl ?_
  refine ab_getR (ci := 10) (k := 10) (j := kx_rings) d_K_isWeak_1 v_482 rfl (by decide) (by decide) rfl r_kx_10 ?_
  refine ab_iload_n (i := 1) d_K_isWeak_4 rfl rfl ?_
  have g1 := h.1; have h := h.2
  refine ab_iald d_K_isWeak_5 rfl rfl g1 ?_
  refine ab_if_eq (tgt := 28) d_K_isWeak_6 (by decide) (fun c2 => ?_) (fun c2 => ?_)
  · have h := h.1 c2
    exact h
  · have h := h.2 c2
    refine ab_aload_n (i := 0) d_K_isWeak_9 rfl rfl ?_
    refine ab_getR (ci := 10) (k := 10) (j := kx_rings) d_K_isWeak_10 v_482 rfl (by decide) (by decide) rfl r_kx_10 ?_
    refine ab_iload_n (i := 1) d_K_isWeak_13 rfl rfl ?_
    refine ab_iald d_K_isWeak_14 rfl rfl g1 ?_
    refine ab_aload_n (i := 0) d_K_isWeak_15 rfl rfl ?_
    refine ab_getR (ci := 10) (k := 10) (j := kx_rings) d_K_isWeak_16 v_482 rfl (by decide) (by decide) rfl r_kx_10 ?_
    refine ab_iload_n (i := 2) d_K_isWeak_19 rfl rfl ?_
    have g3 := h.1; have h := h.2
    refine ab_iald d_K_isWeak_20 rfl rfl g3 ?_
    refine ab_icmp_ne (tgt := 28) d_K_isWeak_21 (by decide) (fun c4 => ?_) (fun c4 => ?_)
    · have h := h.1 c4
      exact h
    · have h := h.2 c4
      refine ab_iconst (v := 1) d_K_isWeak_24 rfl ?_
      refine ab_goto (tgt := 29) d_K_isWeak_25 (by decide) ?_
      exact h
theorem q_K_isWeak_28 {w : ab_Wd} {d n nc ns : Nat} {I : Nat → Nat → Int32} {L : Nat → Nat → Int64} {res : ab_Re} (v1 : Int32) (v2 : Int32) (hc : nc ≤ res.2.2.2.2.2.1) (hs : ns ≤ res.2.2.2.2.2.2)
    (h : ab_E w d mt_K_isWeak 29 [.ref kx, .int v1, .int v2] [.int 0] (I, L, ab_RR, n, nc, ns) res) : ab_E w d mt_K_isWeak 28 [.ref kx, .int v1, .int v2] [] (I, L, ab_RR, n, nc, ns) res := by
  refine ab_iconst (v := 0) d_K_isWeak_28 rfl ?_
  exact h
theorem q_K_isWeak_29 {w : ab_Wd} {d n nc ns : Nat} {I : Nat → Nat → Int32} {L : Nat → Nat → Int64} {res : ab_Re} (v1 : Int32) (v2 : Int32) (s0 : Int32) (hc : nc ≤ res.2.2.2.2.2.1) (hs : ns ≤ res.2.2.2.2.2.2)
    (h : (narrow .boolean (.int s0) = .int s0) ∧ res = (.inl (some (.int s0)), (I, L, ab_RR, n, nc, ns))) : ab_E w d mt_K_isWeak 29 [.ref kx, .int v1, .int v2] [.int s0] (I, L, ab_RR, n, nc, ns) res := by
  have g := h.1; have h := h.2
  exact ab_iret (ty := .boolean) d_K_isWeak_29 rfl g h
