theorem d_Cables_isSound_0 : decode (ab_bc mt_Cables_isSound) 0 = .ok (.aload_n 0, 1) := by decide +kernel
theorem d_Cables_isSound_1 : decode (ab_bc mt_Cables_isSound) 1 = .ok (.getfield 18, 3) := by decide +kernel
theorem d_Cables_isSound_4 : decode (ab_bc mt_Cables_isSound) 4 = .ok (.iload_n 1, 1) := by decide +kernel
theorem d_Cables_isSound_5 : decode (ab_bc mt_Cables_isSound) 5 = .ok (.ishr, 1) := by decide +kernel
theorem d_Cables_isSound_6 : decode (ab_bc mt_Cables_isSound) 6 = .ok (.iconst 1, 1) := by decide +kernel
theorem d_Cables_isSound_7 : decode (ab_bc mt_Cables_isSound) 7 = .ok (.iand, 1) := by decide +kernel
theorem d_Cables_isSound_8 : decode (ab_bc mt_Cables_isSound) 8 = .ok (.iconst 1, 1) := by decide +kernel
theorem d_Cables_isSound_9 : decode (ab_bc mt_Cables_isSound) 9 = .ok (.if_icmp .ne 7, 3) := by decide +kernel
theorem d_Cables_isSound_12 : decode (ab_bc mt_Cables_isSound) 12 = .ok (.iconst 1, 1) := by decide +kernel
theorem d_Cables_isSound_13 : decode (ab_bc mt_Cables_isSound) 13 = .ok (.goto 4, 3) := by decide +kernel
theorem d_Cables_isSound_16 : decode (ab_bc mt_Cables_isSound) 16 = .ok (.iconst 0, 1) := by decide +kernel
theorem d_Cables_isSound_17 : decode (ab_bc mt_Cables_isSound) 17 = .ok (.ireturn, 1) := by decide +kernel
-- CableKeeper$Cables.isSound(I)Z over kx_now_cables
theorem q_Cables_isSound_0_0 {w : ab_Wd} {d n nc ns : Nat} {I : Nat → Nat → Int32} {L : Nat → Nat → Int64} {res : ab_Re} (v1 : Int32) (hc : nc ≤ res.2.2.2.2.2.1) (hs : ns ≤ res.2.2.2.2.2.2)
    (h : ((¬ (((I kx_now_cables 2) >>> (v1 &&& 31)) &&& 1) = 1 → (ab_E w d mt_Cables_isSound 17 [.ref kx_now_cables, .int v1] [.int 0] (I, L, ab_RR, n, nc, ns) res)) ∧ ((((I kx_now_cables 2) >>> (v1 &&& 31)) &&& 1) = 1 → (ab_E w d mt_Cables_isSound 17 [.ref kx_now_cables, .int v1] [.int 1] (I, L, ab_RR, n, nc, ns) res)))) : ab_E w d mt_Cables_isSound 0 [.ref kx_now_cables, .int v1] [] (I, L, ab_RR, n, nc, ns) res := by
  refine ab_aload_n (i := 0) d_Cables_isSound_0 rfl rfl ?_
  refine ab_getI (ci := 1) (k := 2) d_Cables_isSound_1 v_200 rfl (by decide) (by decide) rfl ?_
  refine ab_iload_n (i := 1) d_Cables_isSound_4 rfl rfl ?_
  refine ab_ishr d_Cables_isSound_5 ?_
  refine ab_iconst (v := 1) d_Cables_isSound_6 rfl ?_
  refine ab_iand d_Cables_isSound_7 ?_
  refine ab_iconst (v := 1) d_Cables_isSound_8 rfl ?_
  refine ab_icmp_ne (tgt := 16) d_Cables_isSound_9 (by decide) (fun c1 => ?_) (fun c1 => ?_)
  · have h := h.1 c1
    refine ab_iconst (v := 0) d_Cables_isSound_16 rfl ?_
    exact h
  · have h := h.2 c1
    refine ab_iconst (v := 1) d_Cables_isSound_12 rfl ?_
    refine ab_goto (tgt := 17) d_Cables_isSound_13 (by decide) ?_
    exact h
theorem q_Cables_isSound_0_17 {w : ab_Wd} {d n nc ns : Nat} {I : Nat → Nat → Int32} {L : Nat → Nat → Int64} {res : ab_Re} (v1 : Int32) (s0 : Int32) (hc : nc ≤ res.2.2.2.2.2.1) (hs : ns ≤ res.2.2.2.2.2.2)
    (h : (narrow .boolean (.int s0) = .int s0) ∧ res = (.inl (some (.int s0)), (I, L, ab_RR, n, nc, ns))) : ab_E w d mt_Cables_isSound 17 [.ref kx_now_cables, .int v1] [.int s0] (I, L, ab_RR, n, nc, ns) res := by
  have g := h.1; have h := h.2
  exact ab_iret (ty := .boolean) d_Cables_isSound_17 rfl g h
theorem d_Cables_otherEnd_0 : decode (ab_bc mt_Cables_otherEnd) 0 = .ok (.aload_n 0, 1) := by decide +kernel
theorem d_Cables_otherEnd_1 : decode (ab_bc mt_Cables_otherEnd) 1 = .ok (.getfield 21, 3) := by decide +kernel
theorem d_Cables_otherEnd_4 : decode (ab_bc mt_Cables_otherEnd) 4 = .ok (.iload_n 1, 1) := by decide +kernel
theorem d_Cables_otherEnd_5 : decode (ab_bc mt_Cables_otherEnd) 5 = .ok (.iaload, 1) := by decide +kernel
theorem d_Cables_otherEnd_6 : decode (ab_bc mt_Cables_otherEnd) 6 = .ok (.iload_n 2, 1) := by decide +kernel
theorem d_Cables_otherEnd_7 : decode (ab_bc mt_Cables_otherEnd) 7 = .ok (.if_icmp .ne 12, 3) := by decide +kernel
theorem d_Cables_otherEnd_10 : decode (ab_bc mt_Cables_otherEnd) 10 = .ok (.aload_n 0, 1) := by decide +kernel
theorem d_Cables_otherEnd_11 : decode (ab_bc mt_Cables_otherEnd) 11 = .ok (.getfield 25, 3) := by decide +kernel
theorem d_Cables_otherEnd_14 : decode (ab_bc mt_Cables_otherEnd) 14 = .ok (.iload_n 1, 1) := by decide +kernel
theorem d_Cables_otherEnd_15 : decode (ab_bc mt_Cables_otherEnd) 15 = .ok (.iaload, 1) := by decide +kernel
theorem d_Cables_otherEnd_16 : decode (ab_bc mt_Cables_otherEnd) 16 = .ok (.goto 9, 3) := by decide +kernel
theorem d_Cables_otherEnd_19 : decode (ab_bc mt_Cables_otherEnd) 19 = .ok (.aload_n 0, 1) := by decide +kernel
theorem d_Cables_otherEnd_20 : decode (ab_bc mt_Cables_otherEnd) 20 = .ok (.getfield 21, 3) := by decide +kernel
theorem d_Cables_otherEnd_23 : decode (ab_bc mt_Cables_otherEnd) 23 = .ok (.iload_n 1, 1) := by decide +kernel
theorem d_Cables_otherEnd_24 : decode (ab_bc mt_Cables_otherEnd) 24 = .ok (.iaload, 1) := by decide +kernel
theorem d_Cables_otherEnd_25 : decode (ab_bc mt_Cables_otherEnd) 25 = .ok (.ireturn, 1) := by decide +kernel
-- CableKeeper$Cables.otherEnd(II)I over kx_now_cables
theorem q_Cables_otherEnd_0 {w : ab_Wd} {d n nc ns : Nat} {I : Nat → Nat → Int32} {L : Nat → Nat → Int64} {res : ab_Re} (v1 : Int32) (v2 : Int32) (hc : nc ≤ res.2.2.2.2.2.1) (hs : ns ≤ res.2.2.2.2.2.2)
    (h : (vp_in v1 24) ∧ ((¬ (I kx_now_cables_first v1.toNatClampNeg) = v2 → (ab_E w d mt_Cables_otherEnd 25 [.ref kx_now_cables, .int v1, .int v2] [.int (I kx_now_cables_first v1.toNatClampNeg)] (I, L, ab_RR, n, nc, ns) res)) ∧ ((I kx_now_cables_first v1.toNatClampNeg) = v2 → (ab_E w d mt_Cables_otherEnd 25 [.ref kx_now_cables, .int v1, .int v2] [.int (I kx_now_cables_second v1.toNatClampNeg)] (I, L, ab_RR, n, nc, ns) res)))) : ab_E w d mt_Cables_otherEnd 0 [.ref kx_now_cables, .int v1, .int v2] [] (I, L, ab_RR, n, nc, ns) res := by
  refine ab_aload_n (i := 0) d_Cables_otherEnd_0 rfl rfl ?_
  refine ab_getR (ci := 1) (k := 3) (j := kx_now_cables_first) d_Cables_otherEnd_1 v_204 rfl (by decide) (by decide) rfl r_kx_now_cables_3 ?_
  refine ab_iload_n (i := 1) d_Cables_otherEnd_4 rfl rfl ?_
  have g1 := h.1; have h := h.2
  refine ab_iald d_Cables_otherEnd_5 rfl rfl g1 ?_
  refine ab_iload_n (i := 2) d_Cables_otherEnd_6 rfl rfl ?_
  refine ab_icmp_ne (tgt := 19) d_Cables_otherEnd_7 (by decide) (fun c2 => ?_) (fun c2 => ?_)
  · have h := h.1 c2
    refine ab_aload_n (i := 0) d_Cables_otherEnd_19 rfl rfl ?_
    refine ab_getR (ci := 1) (k := 3) (j := kx_now_cables_first) d_Cables_otherEnd_20 v_204 rfl (by decide) (by decide) rfl r_kx_now_cables_3 ?_
    refine ab_iload_n (i := 1) d_Cables_otherEnd_23 rfl rfl ?_
    refine ab_iald d_Cables_otherEnd_24 rfl rfl g1 ?_
    exact h
  · have h := h.2 c2
    refine ab_aload_n (i := 0) d_Cables_otherEnd_10 rfl rfl ?_
    refine ab_getR (ci := 1) (k := 4) (j := kx_now_cables_second) d_Cables_otherEnd_11 v_211 rfl (by decide) (by decide) rfl r_kx_now_cables_4 ?_
    refine ab_iload_n (i := 1) d_Cables_otherEnd_14 rfl rfl ?_
    refine ab_iald d_Cables_otherEnd_15 rfl rfl g1 ?_
    refine ab_goto (tgt := 25) d_Cables_otherEnd_16 (by decide) ?_
    exact h
theorem q_Cables_otherEnd_25 {w : ab_Wd} {d n nc ns : Nat} {I : Nat → Nat → Int32} {L : Nat → Nat → Int64} {res : ab_Re} (v1 : Int32) (v2 : Int32) (s0 : Int32) (hc : nc ≤ res.2.2.2.2.2.1) (hs : ns ≤ res.2.2.2.2.2.2)
    (h : res = (.inl (some (.int s0)), (I, L, ab_RR, n, nc, ns))) : ab_E w d mt_Cables_otherEnd 25 [.ref kx_now_cables, .int v1, .int v2] [.int s0] (I, L, ab_RR, n, nc, ns) res := by
  exact ab_iret (ty := .int) d_Cables_otherEnd_25 rfl rfl h
theorem d_Cables_ofFirm_0 : decode (ab_bc mt_Cables_ofFirm) 0 = .ok (.iconst 0, 1) := by decide +kernel
theorem d_Cables_ofFirm_1 : decode (ab_bc mt_Cables_ofFirm) 1 = .ok (.istore_n 2, 1) := by decide +kernel
theorem d_Cables_ofFirm_2 : decode (ab_bc mt_Cables_ofFirm) 2 = .ok (.iconst 0, 1) := by decide +kernel
theorem d_Cables_ofFirm_3 : decode (ab_bc mt_Cables_ofFirm) 3 = .ok (.istore_n 3, 1) := by decide +kernel
theorem d_Cables_ofFirm_4 : decode (ab_bc mt_Cables_ofFirm) 4 = .ok (.iload_n 3, 1) := by decide +kernel
theorem d_Cables_ofFirm_5 : decode (ab_bc mt_Cables_ofFirm) 5 = .ok (.aload_n 0, 1) := by decide +kernel
theorem d_Cables_ofFirm_6 : decode (ab_bc mt_Cables_ofFirm) 6 = .ok (.getfield 15, 3) := by decide +kernel
theorem d_Cables_ofFirm_9 : decode (ab_bc mt_Cables_ofFirm) 9 = .ok (.if_icmp .ge 25, 3) := by decide +kernel
theorem d_Cables_ofFirm_12 : decode (ab_bc mt_Cables_ofFirm) 12 = .ok (.aload_n 0, 1) := by decide +kernel
theorem d_Cables_ofFirm_13 : decode (ab_bc mt_Cables_ofFirm) 13 = .ok (.getfield 31, 3) := by decide +kernel
theorem d_Cables_ofFirm_16 : decode (ab_bc mt_Cables_ofFirm) 16 = .ok (.iload_n 3, 1) := by decide +kernel
theorem d_Cables_ofFirm_17 : decode (ab_bc mt_Cables_ofFirm) 17 = .ok (.iaload, 1) := by decide +kernel
theorem d_Cables_ofFirm_18 : decode (ab_bc mt_Cables_ofFirm) 18 = .ok (.iload_n 1, 1) := by decide +kernel
theorem d_Cables_ofFirm_19 : decode (ab_bc mt_Cables_ofFirm) 19 = .ok (.if_icmp .ne 9, 3) := by decide +kernel
theorem d_Cables_ofFirm_22 : decode (ab_bc mt_Cables_ofFirm) 22 = .ok (.iload_n 2, 1) := by decide +kernel
theorem d_Cables_ofFirm_23 : decode (ab_bc mt_Cables_ofFirm) 23 = .ok (.iconst 1, 1) := by decide +kernel
theorem d_Cables_ofFirm_24 : decode (ab_bc mt_Cables_ofFirm) 24 = .ok (.iload_n 3, 1) := by decide +kernel
theorem d_Cables_ofFirm_25 : decode (ab_bc mt_Cables_ofFirm) 25 = .ok (.ishl, 1) := by decide +kernel
theorem d_Cables_ofFirm_26 : decode (ab_bc mt_Cables_ofFirm) 26 = .ok (.ior, 1) := by decide +kernel
theorem d_Cables_ofFirm_27 : decode (ab_bc mt_Cables_ofFirm) 27 = .ok (.istore_n 2, 1) := by decide +kernel
theorem d_Cables_ofFirm_28 : decode (ab_bc mt_Cables_ofFirm) 28 = .ok (.iinc 3 1, 3) := by decide +kernel
theorem d_Cables_ofFirm_31 : decode (ab_bc mt_Cables_ofFirm) 31 = .ok (.goto (-27), 3) := by decide +kernel
theorem d_Cables_ofFirm_34 : decode (ab_bc mt_Cables_ofFirm) 34 = .ok (.iload_n 2, 1) := by decide +kernel
theorem d_Cables_ofFirm_35 : decode (ab_bc mt_Cables_ofFirm) 35 = .ok (.ireturn, 1) := by decide +kernel
-- CableKeeper$Cables.ofFirm(I)I over kx_now_cables
theorem q_Cables_ofFirm_0 {w : ab_Wd} {d n nc ns : Nat} {I : Nat → Nat → Int32} {L : Nat → Nat → Int64} {res : ab_Re} (v1 : Int32) (hc : nc ≤ res.2.2.2.2.2.1) (hs : ns ≤ res.2.2.2.2.2.2)
    (h : ab_E w d mt_Cables_ofFirm 4 [.ref kx_now_cables, .int v1, .int 0, .int 0] [] (I, L, ab_RR, n, nc, ns) res) : ab_E w d mt_Cables_ofFirm 0 [.ref kx_now_cables, .int v1, .null, .null] [] (I, L, ab_RR, n, nc, ns) res := by
  refine ab_iconst (v := 0) d_Cables_ofFirm_0 rfl ?_
  refine ab_istore_n (i := 2) d_Cables_ofFirm_1 rfl (by decide) (Or.inr rfl) ?_
  refine ab_iconst (v := 0) d_Cables_ofFirm_2 rfl ?_
  refine ab_istore_n (i := 3) d_Cables_ofFirm_3 rfl (by decide) (Or.inr rfl) ?_
  exact h
theorem q_Cables_ofFirm_4 {w : ab_Wd} {d n nc ns : Nat} {I : Nat → Nat → Int32} {L : Nat → Nat → Int64} {res : ab_Re} (v1 : Int32) (v2 : Int32) (v3 : Int32) (hc : nc ≤ res.2.2.2.2.2.1) (hs : ns ≤ res.2.2.2.2.2.2)
    (h : (((I kx_now_cables 1) ≤ v3 → (res = (.inl (some (.int v2)), (I, L, ab_RR, n, nc, ns)))) ∧ (¬ (I kx_now_cables 1) ≤ v3 → ((vp_in v3 24) ∧ ((¬ (I kx_now_cables_firm v3.toNatClampNeg) = v1 → (ab_E w d mt_Cables_ofFirm 28 [.ref kx_now_cables, .int v1, .int v2, .int v3] [] (I, L, ab_RR, n, nc, ns) res)) ∧ ((I kx_now_cables_firm v3.toNatClampNeg) = v1 → (ab_E w d mt_Cables_ofFirm 28 [.ref kx_now_cables, .int v1, .int (v2 ||| ((1 : Int32) <<< (v3 &&& 31))), .int v3] [] (I, L, ab_RR, n, nc, ns) res))))))) : ab_E w d mt_Cables_ofFirm 4 [.ref kx_now_cables, .int v1, .int v2, .int v3] [] (I, L, ab_RR, n, nc, ns) res := by
  refine ab_iload_n (i := 3) d_Cables_ofFirm_4 rfl rfl ?_
  refine ab_aload_n (i := 0) d_Cables_ofFirm_5 rfl rfl ?_
  refine ab_getI (ci := 1) (k := 1) d_Cables_ofFirm_6 v_192 rfl (by decide) (by decide) rfl ?_
  refine ab_icmp_ge (tgt := 34) d_Cables_ofFirm_9 (by decide) (fun c1 => ?_) (fun c1 => ?_)
  · have h := h.1 c1
    refine ab_iload_n (i := 2) d_Cables_ofFirm_34 rfl rfl ?_
    exact ab_iret (ty := .int) d_Cables_ofFirm_35 rfl rfl h
  · have h := h.2 c1
    refine ab_aload_n (i := 0) d_Cables_ofFirm_12 rfl rfl ?_
    refine ab_getR (ci := 1) (k := 6) (j := kx_now_cables_firm) d_Cables_ofFirm_13 v_226 rfl (by decide) (by decide) rfl r_kx_now_cables_6 ?_
    refine ab_iload_n (i := 3) d_Cables_ofFirm_16 rfl rfl ?_
    have g2 := h.1; have h := h.2
    refine ab_iald d_Cables_ofFirm_17 rfl rfl g2 ?_
    refine ab_iload_n (i := 1) d_Cables_ofFirm_18 rfl rfl ?_
    refine ab_icmp_ne (tgt := 28) d_Cables_ofFirm_19 (by decide) (fun c3 => ?_) (fun c3 => ?_)
    · have h := h.1 c3
      exact h
    · have h := h.2 c3
      refine ab_iload_n (i := 2) d_Cables_ofFirm_22 rfl rfl ?_
      refine ab_iconst (v := 1) d_Cables_ofFirm_23 rfl ?_
      refine ab_iload_n (i := 3) d_Cables_ofFirm_24 rfl rfl ?_
      refine ab_ishl d_Cables_ofFirm_25 ?_
      refine ab_ior d_Cables_ofFirm_26 ?_
      refine ab_istore_n (i := 2) d_Cables_ofFirm_27 rfl (by decide) (Or.inr rfl) ?_
      exact h
theorem q_Cables_ofFirm_28 {w : ab_Wd} {d n nc ns : Nat} {I : Nat → Nat → Int32} {L : Nat → Nat → Int64} {res : ab_Re} (v1 : Int32) (v2 : Int32) (v3 : Int32) (hc : nc ≤ res.2.2.2.2.2.1) (hs : ns ≤ res.2.2.2.2.2.2)
    (h : ab_E w d mt_Cables_ofFirm 4 [.ref kx_now_cables, .int v1, .int v2, .int (v3 + 1)] [] (I, L, ab_RR, n, nc, ns) res) : ab_E w d mt_Cables_ofFirm 28 [.ref kx_now_cables, .int v1, .int v2, .int v3] [] (I, L, ab_RR, n, nc, ns) res := by
  refine ab_iinc (i := 3) (v := (v3 + 1)) d_Cables_ofFirm_28 rfl rfl (by decide) (Or.inr rfl) ?_
  refine ab_goto (tgt := 4) d_Cables_ofFirm_31 (by decide) ?_
  exact h
theorem d_Cables_pricesOf_0 : decode (ab_bc mt_Cables_pricesOf) 0 = .ok (.iconst 0, 1) := by decide +kernel
theorem d_Cables_pricesOf_1 : decode (ab_bc mt_Cables_pricesOf) 1 = .ok (.istore_n 2, 1) := by decide +kernel
theorem d_Cables_pricesOf_2 : decode (ab_bc mt_Cables_pricesOf) 2 = .ok (.iconst 0, 1) := by decide +kernel
theorem d_Cables_pricesOf_3 : decode (ab_bc mt_Cables_pricesOf) 3 = .ok (.istore_n 3, 1) := by decide +kernel
theorem d_Cables_pricesOf_4 : decode (ab_bc mt_Cables_pricesOf) 4 = .ok (.iload_n 3, 1) := by decide +kernel
theorem d_Cables_pricesOf_5 : decode (ab_bc mt_Cables_pricesOf) 5 = .ok (.aload_n 0, 1) := by decide +kernel
theorem d_Cables_pricesOf_6 : decode (ab_bc mt_Cables_pricesOf) 6 = .ok (.getfield 15, 3) := by decide +kernel
theorem d_Cables_pricesOf_9 : decode (ab_bc mt_Cables_pricesOf) 9 = .ok (.if_icmp .ge 27, 3) := by decide +kernel
theorem d_Cables_pricesOf_12 : decode (ab_bc mt_Cables_pricesOf) 12 = .ok (.iload_n 1, 1) := by decide +kernel
theorem d_Cables_pricesOf_13 : decode (ab_bc mt_Cables_pricesOf) 13 = .ok (.iload_n 3, 1) := by decide +kernel
theorem d_Cables_pricesOf_14 : decode (ab_bc mt_Cables_pricesOf) 14 = .ok (.ishr, 1) := by decide +kernel
theorem d_Cables_pricesOf_15 : decode (ab_bc mt_Cables_pricesOf) 15 = .ok (.iconst 1, 1) := by decide +kernel
theorem d_Cables_pricesOf_16 : decode (ab_bc mt_Cables_pricesOf) 16 = .ok (.iand, 1) := by decide +kernel
theorem d_Cables_pricesOf_17 : decode (ab_bc mt_Cables_pricesOf) 17 = .ok (.iconst 1, 1) := by decide +kernel
theorem d_Cables_pricesOf_18 : decode (ab_bc mt_Cables_pricesOf) 18 = .ok (.if_icmp .ne 12, 3) := by decide +kernel
theorem d_Cables_pricesOf_21 : decode (ab_bc mt_Cables_pricesOf) 21 = .ok (.iload_n 2, 1) := by decide +kernel
theorem d_Cables_pricesOf_22 : decode (ab_bc mt_Cables_pricesOf) 22 = .ok (.aload_n 0, 1) := by decide +kernel
theorem d_Cables_pricesOf_23 : decode (ab_bc mt_Cables_pricesOf) 23 = .ok (.getfield 28, 3) := by decide +kernel
theorem d_Cables_pricesOf_26 : decode (ab_bc mt_Cables_pricesOf) 26 = .ok (.iload_n 3, 1) := by decide +kernel
theorem d_Cables_pricesOf_27 : decode (ab_bc mt_Cables_pricesOf) 27 = .ok (.iaload, 1) := by decide +kernel
theorem d_Cables_pricesOf_28 : decode (ab_bc mt_Cables_pricesOf) 28 = .ok (.iadd, 1) := by decide +kernel
theorem d_Cables_pricesOf_29 : decode (ab_bc mt_Cables_pricesOf) 29 = .ok (.istore_n 2, 1) := by decide +kernel
theorem d_Cables_pricesOf_30 : decode (ab_bc mt_Cables_pricesOf) 30 = .ok (.iinc 3 1, 3) := by decide +kernel
theorem d_Cables_pricesOf_33 : decode (ab_bc mt_Cables_pricesOf) 33 = .ok (.goto (-29), 3) := by decide +kernel
theorem d_Cables_pricesOf_36 : decode (ab_bc mt_Cables_pricesOf) 36 = .ok (.iload_n 2, 1) := by decide +kernel
theorem d_Cables_pricesOf_37 : decode (ab_bc mt_Cables_pricesOf) 37 = .ok (.ireturn, 1) := by decide +kernel
-- CableKeeper$Cables.pricesOf(I)I over kx_now_cables
theorem q_Cables_pricesOf_0 {w : ab_Wd} {d n nc ns : Nat} {I : Nat → Nat → Int32} {L : Nat → Nat → Int64} {res : ab_Re} (v1 : Int32) (hc : nc ≤ res.2.2.2.2.2.1) (hs : ns ≤ res.2.2.2.2.2.2)
    (h : ab_E w d mt_Cables_pricesOf 4 [.ref kx_now_cables, .int v1, .int 0, .int 0] [] (I, L, ab_RR, n, nc, ns) res) : ab_E w d mt_Cables_pricesOf 0 [.ref kx_now_cables, .int v1, .null, .null] [] (I, L, ab_RR, n, nc, ns) res := by
  refine ab_iconst (v := 0) d_Cables_pricesOf_0 rfl ?_
  refine ab_istore_n (i := 2) d_Cables_pricesOf_1 rfl (by decide) (Or.inr rfl) ?_
  refine ab_iconst (v := 0) d_Cables_pricesOf_2 rfl ?_
  refine ab_istore_n (i := 3) d_Cables_pricesOf_3 rfl (by decide) (Or.inr rfl) ?_
  exact h
theorem q_Cables_pricesOf_4 {w : ab_Wd} {d n nc ns : Nat} {I : Nat → Nat → Int32} {L : Nat → Nat → Int64} {res : ab_Re} (v1 : Int32) (v2 : Int32) (v3 : Int32) (hc : nc ≤ res.2.2.2.2.2.1) (hs : ns ≤ res.2.2.2.2.2.2)
    (h : (((I kx_now_cables 1) ≤ v3 → (res = (.inl (some (.int v2)), (I, L, ab_RR, n, nc, ns)))) ∧ (¬ (I kx_now_cables 1) ≤ v3 → ((¬ ((v1 >>> (v3 &&& 31)) &&& 1) = 1 → (ab_E w d mt_Cables_pricesOf 30 [.ref kx_now_cables, .int v1, .int v2, .int v3] [] (I, L, ab_RR, n, nc, ns) res)) ∧ (((v1 >>> (v3 &&& 31)) &&& 1) = 1 → ((vp_in v3 24) ∧ ab_E w d mt_Cables_pricesOf 30 [.ref kx_now_cables, .int v1, .int (v2 + (I kx_now_cables_price v3.toNatClampNeg)), .int v3] [] (I, L, ab_RR, n, nc, ns) res)))))) : ab_E w d mt_Cables_pricesOf 4 [.ref kx_now_cables, .int v1, .int v2, .int v3] [] (I, L, ab_RR, n, nc, ns) res := by
  refine ab_iload_n (i := 3) d_Cables_pricesOf_4 rfl rfl ?_
  refine ab_aload_n (i := 0) d_Cables_pricesOf_5 rfl rfl ?_
  refine ab_getI (ci := 1) (k := 1) d_Cables_pricesOf_6 v_192 rfl (by decide) (by decide) rfl ?_
  refine ab_icmp_ge (tgt := 36) d_Cables_pricesOf_9 (by decide) (fun c1 => ?_) (fun c1 => ?_)
  · have h := h.1 c1
    refine ab_iload_n (i := 2) d_Cables_pricesOf_36 rfl rfl ?_
    exact ab_iret (ty := .int) d_Cables_pricesOf_37 rfl rfl h
  · have h := h.2 c1
    refine ab_iload_n (i := 1) d_Cables_pricesOf_12 rfl rfl ?_
    refine ab_iload_n (i := 3) d_Cables_pricesOf_13 rfl rfl ?_
    refine ab_ishr d_Cables_pricesOf_14 ?_
    refine ab_iconst (v := 1) d_Cables_pricesOf_15 rfl ?_
    refine ab_iand d_Cables_pricesOf_16 ?_
    refine ab_iconst (v := 1) d_Cables_pricesOf_17 rfl ?_
    refine ab_icmp_ne (tgt := 30) d_Cables_pricesOf_18 (by decide) (fun c2 => ?_) (fun c2 => ?_)
    · have h := h.1 c2
      exact h
    · have h := h.2 c2
      refine ab_iload_n (i := 2) d_Cables_pricesOf_21 rfl rfl ?_
      refine ab_aload_n (i := 0) d_Cables_pricesOf_22 rfl rfl ?_
      refine ab_getR (ci := 1) (k := 5) (j := kx_now_cables_price) d_Cables_pricesOf_23 v_218 rfl (by decide) (by decide) rfl r_kx_now_cables_5 ?_
      refine ab_iload_n (i := 3) d_Cables_pricesOf_26 rfl rfl ?_
      have g3 := h.1; have h := h.2
      refine ab_iald d_Cables_pricesOf_27 rfl rfl g3 ?_
      refine ab_iadd d_Cables_pricesOf_28 ?_
      refine ab_istore_n (i := 2) d_Cables_pricesOf_29 rfl (by decide) (Or.inr rfl) ?_
      exact h
theorem q_Cables_pricesOf_30 {w : ab_Wd} {d n nc ns : Nat} {I : Nat → Nat → Int32} {L : Nat → Nat → Int64} {res : ab_Re} (v1 : Int32) (v2 : Int32) (v3 : Int32) (hc : nc ≤ res.2.2.2.2.2.1) (hs : ns ≤ res.2.2.2.2.2.2)
    (h : ab_E w d mt_Cables_pricesOf 4 [.ref kx_now_cables, .int v1, .int v2, .int (v3 + 1)] [] (I, L, ab_RR, n, nc, ns) res) : ab_E w d mt_Cables_pricesOf 30 [.ref kx_now_cables, .int v1, .int v2, .int v3] [] (I, L, ab_RR, n, nc, ns) res := by
  refine ab_iinc (i := 3) (v := (v3 + 1)) d_Cables_pricesOf_30 rfl rfl (by decide) (Or.inr rfl) ?_
  refine ab_goto (tgt := 4) d_Cables_pricesOf_33 (by decide) ?_
  exact h
theorem d_Cables_endingAt_0 : decode (ab_bc mt_Cables_endingAt) 0 = .ok (.iconst 0, 1) := by decide +kernel
theorem d_Cables_endingAt_1 : decode (ab_bc mt_Cables_endingAt) 1 = .ok (.istore_n 2, 1) := by decide +kernel
theorem d_Cables_endingAt_2 : decode (ab_bc mt_Cables_endingAt) 2 = .ok (.iconst 0, 1) := by decide +kernel
theorem d_Cables_endingAt_3 : decode (ab_bc mt_Cables_endingAt) 3 = .ok (.istore_n 3, 1) := by decide +kernel
theorem d_Cables_endingAt_4 : decode (ab_bc mt_Cables_endingAt) 4 = .ok (.iload_n 3, 1) := by decide +kernel
theorem d_Cables_endingAt_5 : decode (ab_bc mt_Cables_endingAt) 5 = .ok (.aload_n 0, 1) := by decide +kernel
theorem d_Cables_endingAt_6 : decode (ab_bc mt_Cables_endingAt) 6 = .ok (.getfield 15, 3) := by decide +kernel
theorem d_Cables_endingAt_9 : decode (ab_bc mt_Cables_endingAt) 9 = .ok (.if_icmp .ge 35, 3) := by decide +kernel
theorem d_Cables_endingAt_12 : decode (ab_bc mt_Cables_endingAt) 12 = .ok (.aload_n 0, 1) := by decide +kernel
theorem d_Cables_endingAt_13 : decode (ab_bc mt_Cables_endingAt) 13 = .ok (.getfield 21, 3) := by decide +kernel
theorem d_Cables_endingAt_16 : decode (ab_bc mt_Cables_endingAt) 16 = .ok (.iload_n 3, 1) := by decide +kernel
theorem d_Cables_endingAt_17 : decode (ab_bc mt_Cables_endingAt) 17 = .ok (.iaload, 1) := by decide +kernel
theorem d_Cables_endingAt_18 : decode (ab_bc mt_Cables_endingAt) 18 = .ok (.iload_n 1, 1) := by decide +kernel
theorem d_Cables_endingAt_19 : decode (ab_bc mt_Cables_endingAt) 19 = .ok (.if_icmp .eq 13, 3) := by decide +kernel
theorem d_Cables_endingAt_22 : decode (ab_bc mt_Cables_endingAt) 22 = .ok (.aload_n 0, 1) := by decide +kernel
theorem d_Cables_endingAt_23 : decode (ab_bc mt_Cables_endingAt) 23 = .ok (.getfield 25, 3) := by decide +kernel
theorem d_Cables_endingAt_26 : decode (ab_bc mt_Cables_endingAt) 26 = .ok (.iload_n 3, 1) := by decide +kernel
theorem d_Cables_endingAt_27 : decode (ab_bc mt_Cables_endingAt) 27 = .ok (.iaload, 1) := by decide +kernel
theorem d_Cables_endingAt_28 : decode (ab_bc mt_Cables_endingAt) 28 = .ok (.iload_n 1, 1) := by decide +kernel
theorem d_Cables_endingAt_29 : decode (ab_bc mt_Cables_endingAt) 29 = .ok (.if_icmp .ne 9, 3) := by decide +kernel
theorem d_Cables_endingAt_32 : decode (ab_bc mt_Cables_endingAt) 32 = .ok (.iload_n 2, 1) := by decide +kernel
theorem d_Cables_endingAt_33 : decode (ab_bc mt_Cables_endingAt) 33 = .ok (.iconst 1, 1) := by decide +kernel
theorem d_Cables_endingAt_34 : decode (ab_bc mt_Cables_endingAt) 34 = .ok (.iload_n 3, 1) := by decide +kernel
theorem d_Cables_endingAt_35 : decode (ab_bc mt_Cables_endingAt) 35 = .ok (.ishl, 1) := by decide +kernel
theorem d_Cables_endingAt_36 : decode (ab_bc mt_Cables_endingAt) 36 = .ok (.ior, 1) := by decide +kernel
theorem d_Cables_endingAt_37 : decode (ab_bc mt_Cables_endingAt) 37 = .ok (.istore_n 2, 1) := by decide +kernel
theorem d_Cables_endingAt_38 : decode (ab_bc mt_Cables_endingAt) 38 = .ok (.iinc 3 1, 3) := by decide +kernel
theorem d_Cables_endingAt_41 : decode (ab_bc mt_Cables_endingAt) 41 = .ok (.goto (-37), 3) := by decide +kernel
theorem d_Cables_endingAt_44 : decode (ab_bc mt_Cables_endingAt) 44 = .ok (.iload_n 2, 1) := by decide +kernel
theorem d_Cables_endingAt_45 : decode (ab_bc mt_Cables_endingAt) 45 = .ok (.ireturn, 1) := by decide +kernel
-- CableKeeper$Cables.endingAt(I)I over kx_now_cables
theorem q_Cables_endingAt_0 {w : ab_Wd} {d n nc ns : Nat} {I : Nat → Nat → Int32} {L : Nat → Nat → Int64} {res : ab_Re} (v1 : Int32) (hc : nc ≤ res.2.2.2.2.2.1) (hs : ns ≤ res.2.2.2.2.2.2)
    (h : ab_E w d mt_Cables_endingAt 4 [.ref kx_now_cables, .int v1, .int 0, .int 0] [] (I, L, ab_RR, n, nc, ns) res) : ab_E w d mt_Cables_endingAt 0 [.ref kx_now_cables, .int v1, .null, .null] [] (I, L, ab_RR, n, nc, ns) res := by
  refine ab_iconst (v := 0) d_Cables_endingAt_0 rfl ?_
  refine ab_istore_n (i := 2) d_Cables_endingAt_1 rfl (by decide) (Or.inr rfl) ?_
  refine ab_iconst (v := 0) d_Cables_endingAt_2 rfl ?_
  refine ab_istore_n (i := 3) d_Cables_endingAt_3 rfl (by decide) (Or.inr rfl) ?_
  exact h
theorem q_Cables_endingAt_4 {w : ab_Wd} {d n nc ns : Nat} {I : Nat → Nat → Int32} {L : Nat → Nat → Int64} {res : ab_Re} (v1 : Int32) (v2 : Int32) (v3 : Int32) (hc : nc ≤ res.2.2.2.2.2.1) (hs : ns ≤ res.2.2.2.2.2.2)
    (h : (((I kx_now_cables 1) ≤ v3 → (res = (.inl (some (.int v2)), (I, L, ab_RR, n, nc, ns)))) ∧ (¬ (I kx_now_cables 1) ≤ v3 → ((vp_in v3 24) ∧ (((I kx_now_cables_first v3.toNatClampNeg) = v1 → (ab_E w d mt_Cables_endingAt 32 [.ref kx_now_cables, .int v1, .int v2, .int v3] [] (I, L, ab_RR, n, nc, ns) res)) ∧ (¬ (I kx_now_cables_first v3.toNatClampNeg) = v1 → ((¬ (I kx_now_cables_second v3.toNatClampNeg) = v1 → (ab_E w d mt_Cables_endingAt 38 [.ref kx_now_cables, .int v1, .int v2, .int v3] [] (I, L, ab_RR, n, nc, ns) res)) ∧ ((I kx_now_cables_second v3.toNatClampNeg) = v1 → (ab_E w d mt_Cables_endingAt 32 [.ref kx_now_cables, .int v1, .int v2, .int v3] [] (I, L, ab_RR, n, nc, ns) res))))))))) : ab_E w d mt_Cables_endingAt 4 [.ref kx_now_cables, .int v1, .int v2, .int v3] [] (I, L, ab_RR, n, nc, ns) res := by
  refine ab_iload_n (i := 3) d_Cables_endingAt_4 rfl rfl ?_
  refine ab_aload_n (i := 0) d_Cables_endingAt_5 rfl rfl ?_
  refine ab_getI (ci := 1) (k := 1) d_Cables_endingAt_6 v_192 rfl (by decide) (by decide) rfl ?_
  refine ab_icmp_ge (tgt := 44) d_Cables_endingAt_9 (by decide) (fun c1 => ?_) (fun c1 => ?_)
  · have h := h.1 c1
    refine ab_iload_n (i := 2) d_Cables_endingAt_44 rfl rfl ?_
    exact ab_iret (ty := .int) d_Cables_endingAt_45 rfl rfl h
  · have h := h.2 c1
    refine ab_aload_n (i := 0) d_Cables_endingAt_12 rfl rfl ?_
    refine ab_getR (ci := 1) (k := 3) (j := kx_now_cables_first) d_Cables_endingAt_13 v_204 rfl (by decide) (by decide) rfl r_kx_now_cables_3 ?_
    refine ab_iload_n (i := 3) d_Cables_endingAt_16 rfl rfl ?_
    have g2 := h.1; have h := h.2
    refine ab_iald d_Cables_endingAt_17 rfl rfl g2 ?_
    refine ab_iload_n (i := 1) d_Cables_endingAt_18 rfl rfl ?_
    refine ab_icmp_eq (tgt := 32) d_Cables_endingAt_19 (by decide) (fun c3 => ?_) (fun c3 => ?_)
    · have h := h.1 c3
      exact h
    · have h := h.2 c3
      refine ab_aload_n (i := 0) d_Cables_endingAt_22 rfl rfl ?_
      refine ab_getR (ci := 1) (k := 4) (j := kx_now_cables_second) d_Cables_endingAt_23 v_211 rfl (by decide) (by decide) rfl r_kx_now_cables_4 ?_
      refine ab_iload_n (i := 3) d_Cables_endingAt_26 rfl rfl ?_
      refine ab_iald d_Cables_endingAt_27 rfl rfl g2 ?_
      refine ab_iload_n (i := 1) d_Cables_endingAt_28 rfl rfl ?_
      refine ab_icmp_ne (tgt := 38) d_Cables_endingAt_29 (by decide) (fun c4 => ?_) (fun c4 => ?_)
      · have h := h.1 c4
        exact h
      · have h := h.2 c4
        exact h
theorem q_Cables_endingAt_32 {w : ab_Wd} {d n nc ns : Nat} {I : Nat → Nat → Int32} {L : Nat → Nat → Int64} {res : ab_Re} (v1 : Int32) (v2 : Int32) (v3 : Int32) (hc : nc ≤ res.2.2.2.2.2.1) (hs : ns ≤ res.2.2.2.2.2.2)
    (h : ab_E w d mt_Cables_endingAt 38 [.ref kx_now_cables, .int v1, .int (v2 ||| ((1 : Int32) <<< (v3 &&& 31))), .int v3] [] (I, L, ab_RR, n, nc, ns) res) : ab_E w d mt_Cables_endingAt 32 [.ref kx_now_cables, .int v1, .int v2, .int v3] [] (I, L, ab_RR, n, nc, ns) res := by
  refine ab_iload_n (i := 2) d_Cables_endingAt_32 rfl rfl ?_
  refine ab_iconst (v := 1) d_Cables_endingAt_33 rfl ?_
  refine ab_iload_n (i := 3) d_Cables_endingAt_34 rfl rfl ?_
  refine ab_ishl d_Cables_endingAt_35 ?_
  refine ab_ior d_Cables_endingAt_36 ?_
  refine ab_istore_n (i := 2) d_Cables_endingAt_37 rfl (by decide) (Or.inr rfl) ?_
  exact h
theorem q_Cables_endingAt_38 {w : ab_Wd} {d n nc ns : Nat} {I : Nat → Nat → Int32} {L : Nat → Nat → Int64} {res : ab_Re} (v1 : Int32) (v2 : Int32) (v3 : Int32) (hc : nc ≤ res.2.2.2.2.2.1) (hs : ns ≤ res.2.2.2.2.2.2)
    (h : ab_E w d mt_Cables_endingAt 4 [.ref kx_now_cables, .int v1, .int v2, .int (v3 + 1)] [] (I, L, ab_RR, n, nc, ns) res) : ab_E w d mt_Cables_endingAt 38 [.ref kx_now_cables, .int v1, .int v2, .int v3] [] (I, L, ab_RR, n, nc, ns) res := by
  refine ab_iinc (i := 3) (v := (v3 + 1)) d_Cables_endingAt_38 rfl rfl (by decide) (Or.inr rfl) ?_
  refine ab_goto (tgt := 4) d_Cables_endingAt_41 (by decide) ?_
  exact h
theorem d_Cables_has_0 : decode (ab_bc mt_Cables_has) 0 = .ok (.iload_n 1, 1) := by decide +kernel
theorem d_Cables_has_1 : decode (ab_bc mt_Cables_has) 1 = .ok (.ifCond .lt 15, 3) := by decide +kernel
theorem d_Cables_has_4 : decode (ab_bc mt_Cables_has) 4 = .ok (.iload_n 1, 1) := by decide +kernel
theorem d_Cables_has_5 : decode (ab_bc mt_Cables_has) 5 = .ok (.aload_n 0, 1) := by decide +kernel
theorem d_Cables_has_6 : decode (ab_bc mt_Cables_has) 6 = .ok (.getfield 15, 3) := by decide +kernel
theorem d_Cables_has_9 : decode (ab_bc mt_Cables_has) 9 = .ok (.if_icmp .ge 7, 3) := by decide +kernel
theorem d_Cables_has_12 : decode (ab_bc mt_Cables_has) 12 = .ok (.iconst 1, 1) := by decide +kernel
theorem d_Cables_has_13 : decode (ab_bc mt_Cables_has) 13 = .ok (.goto 4, 3) := by decide +kernel
theorem d_Cables_has_16 : decode (ab_bc mt_Cables_has) 16 = .ok (.iconst 0, 1) := by decide +kernel
theorem d_Cables_has_17 : decode (ab_bc mt_Cables_has) 17 = .ok (.ireturn, 1) := by decide +kernel
-- CableKeeper$Cables.has(I)Z over kx_now_cables
theorem q_Cables_has_0 {w : ab_Wd} {d n nc ns : Nat} {I : Nat → Nat → Int32} {L : Nat → Nat → Int64} {res : ab_Re} (v1 : Int32) (hc : nc ≤ res.2.2.2.2.2.1) (hs : ns ≤ res.2.2.2.2.2.2)
    (h : ((v1 < 0 → (ab_E w d mt_Cables_has 16 [.ref kx_now_cables, .int v1] [] (I, L, ab_RR, n, nc, ns) res)) ∧ (¬ v1 < 0 → (((I kx_now_cables 1) ≤ v1 → (ab_E w d mt_Cables_has 16 [.ref kx_now_cables, .int v1] [] (I, L, ab_RR, n, nc, ns) res)) ∧ (¬ (I kx_now_cables 1) ≤ v1 → (ab_E w d mt_Cables_has 17 [.ref kx_now_cables, .int v1] [.int 1] (I, L, ab_RR, n, nc, ns) res)))))) : ab_E w d mt_Cables_has 0 [.ref kx_now_cables, .int v1] [] (I, L, ab_RR, n, nc, ns) res := by
  refine ab_iload_n (i := 1) d_Cables_has_0 rfl rfl ?_
  refine ab_if_lt (tgt := 16) d_Cables_has_1 (by decide) (fun c1 => ?_) (fun c1 => ?_)
  · have h := h.1 c1
    exact h
  · have h := h.2 c1
    refine ab_iload_n (i := 1) d_Cables_has_4 rfl rfl ?_
    refine ab_aload_n (i := 0) d_Cables_has_5 rfl rfl ?_
    refine ab_getI (ci := 1) (k := 1) d_Cables_has_6 v_192 rfl (by decide) (by decide) rfl ?_
    refine ab_icmp_ge (tgt := 16) d_Cables_has_9 (by decide) (fun c2 => ?_) (fun c2 => ?_)
    · have h := h.1 c2
      exact h
    · have h := h.2 c2
      refine ab_iconst (v := 1) d_Cables_has_12 rfl ?_
      refine ab_goto (tgt := 17) d_Cables_has_13 (by decide) ?_
      exact h
theorem q_Cables_has_16 {w : ab_Wd} {d n nc ns : Nat} {I : Nat → Nat → Int32} {L : Nat → Nat → Int64} {res : ab_Re} (v1 : Int32) (hc : nc ≤ res.2.2.2.2.2.1) (hs : ns ≤ res.2.2.2.2.2.2)
    (h : ab_E w d mt_Cables_has 17 [.ref kx_now_cables, .int v1] [.int 0] (I, L, ab_RR, n, nc, ns) res) : ab_E w d mt_Cables_has 16 [.ref kx_now_cables, .int v1] [] (I, L, ab_RR, n, nc, ns) res := by
  refine ab_iconst (v := 0) d_Cables_has_16 rfl ?_
  exact h
theorem q_Cables_has_17 {w : ab_Wd} {d n nc ns : Nat} {I : Nat → Nat → Int32} {L : Nat → Nat → Int64} {res : ab_Re} (v1 : Int32) (s0 : Int32) (hc : nc ≤ res.2.2.2.2.2.1) (hs : ns ≤ res.2.2.2.2.2.2)
    (h : (narrow .boolean (.int s0) = .int s0) ∧ res = (.inl (some (.int s0)), (I, L, ab_RR, n, nc, ns))) : ab_E w d mt_Cables_has 17 [.ref kx_now_cables, .int v1] [.int s0] (I, L, ab_RR, n, nc, ns) res := by
  have g := h.1; have h := h.2
  exact ab_iret (ty := .boolean) d_Cables_has_17 rfl g h
theorem d_Cables_add_0 : decode (ab_bc mt_Cables_add) 0 = .ok (.aload_n 0, 1) := by decide +kernel
theorem d_Cables_add_1 : decode (ab_bc mt_Cables_add) 1 = .ok (.getfield 15, 3) := by decide +kernel
theorem d_Cables_add_4 : decode (ab_bc mt_Cables_add) 4 = .ok (.bipush 24, 2) := by decide +kernel
theorem d_Cables_add_6 : decode (ab_bc mt_Cables_add) 6 = .ok (.if_icmp .lt 5, 3) := by decide +kernel
theorem d_Cables_add_9 : decode (ab_bc mt_Cables_add) 9 = .ok (.iconst (-1), 1) := by decide +kernel
theorem d_Cables_add_10 : decode (ab_bc mt_Cables_add) 10 = .ok (.ireturn, 1) := by decide +kernel
theorem d_Cables_add_11 : decode (ab_bc mt_Cables_add) 11 = .ok (.aload_n 0, 1) := by decide +kernel
theorem d_Cables_add_12 : decode (ab_bc mt_Cables_add) 12 = .ok (.getfield 21, 3) := by decide +kernel
theorem d_Cables_add_15 : decode (ab_bc mt_Cables_add) 15 = .ok (.aload_n 0, 1) := by decide +kernel
theorem d_Cables_add_16 : decode (ab_bc mt_Cables_add) 16 = .ok (.getfield 15, 3) := by decide +kernel
theorem d_Cables_add_19 : decode (ab_bc mt_Cables_add) 19 = .ok (.iload_n 1, 1) := by decide +kernel
theorem d_Cables_add_20 : decode (ab_bc mt_Cables_add) 20 = .ok (.iastore, 1) := by decide +kernel
theorem d_Cables_add_21 : decode (ab_bc mt_Cables_add) 21 = .ok (.aload_n 0, 1) := by decide +kernel
theorem d_Cables_add_22 : decode (ab_bc mt_Cables_add) 22 = .ok (.getfield 25, 3) := by decide +kernel
theorem d_Cables_add_25 : decode (ab_bc mt_Cables_add) 25 = .ok (.aload_n 0, 1) := by decide +kernel
theorem d_Cables_add_26 : decode (ab_bc mt_Cables_add) 26 = .ok (.getfield 15, 3) := by decide +kernel
theorem d_Cables_add_29 : decode (ab_bc mt_Cables_add) 29 = .ok (.iload_n 2, 1) := by decide +kernel
theorem d_Cables_add_30 : decode (ab_bc mt_Cables_add) 30 = .ok (.iastore, 1) := by decide +kernel
theorem d_Cables_add_31 : decode (ab_bc mt_Cables_add) 31 = .ok (.aload_n 0, 1) := by decide +kernel
theorem d_Cables_add_32 : decode (ab_bc mt_Cables_add) 32 = .ok (.getfield 28, 3) := by decide +kernel
theorem d_Cables_add_35 : decode (ab_bc mt_Cables_add) 35 = .ok (.aload_n 0, 1) := by decide +kernel
theorem d_Cables_add_36 : decode (ab_bc mt_Cables_add) 36 = .ok (.getfield 15, 3) := by decide +kernel
theorem d_Cables_add_39 : decode (ab_bc mt_Cables_add) 39 = .ok (.iload_n 3, 1) := by decide +kernel
theorem d_Cables_add_40 : decode (ab_bc mt_Cables_add) 40 = .ok (.iastore, 1) := by decide +kernel
theorem d_Cables_add_41 : decode (ab_bc mt_Cables_add) 41 = .ok (.aload_n 0, 1) := by decide +kernel
theorem d_Cables_add_42 : decode (ab_bc mt_Cables_add) 42 = .ok (.getfield 31, 3) := by decide +kernel
theorem d_Cables_add_45 : decode (ab_bc mt_Cables_add) 45 = .ok (.aload_n 0, 1) := by decide +kernel
theorem d_Cables_add_46 : decode (ab_bc mt_Cables_add) 46 = .ok (.getfield 15, 3) := by decide +kernel
theorem d_Cables_add_49 : decode (ab_bc mt_Cables_add) 49 = .ok (.iload 4, 2) := by decide +kernel
theorem d_Cables_add_51 : decode (ab_bc mt_Cables_add) 51 = .ok (.iastore, 1) := by decide +kernel
theorem d_Cables_add_52 : decode (ab_bc mt_Cables_add) 52 = .ok (.aload_n 0, 1) := by decide +kernel
theorem d_Cables_add_53 : decode (ab_bc mt_Cables_add) 53 = .ok (.dup, 1) := by decide +kernel
theorem d_Cables_add_54 : decode (ab_bc mt_Cables_add) 54 = .ok (.getfield 18, 3) := by decide +kernel
theorem d_Cables_add_57 : decode (ab_bc mt_Cables_add) 57 = .ok (.iconst 1, 1) := by decide +kernel
theorem d_Cables_add_58 : decode (ab_bc mt_Cables_add) 58 = .ok (.aload_n 0, 1) := by decide +kernel
theorem d_Cables_add_59 : decode (ab_bc mt_Cables_add) 59 = .ok (.getfield 15, 3) := by decide +kernel
theorem d_Cables_add_62 : decode (ab_bc mt_Cables_add) 62 = .ok (.ishl, 1) := by decide +kernel
theorem d_Cables_add_63 : decode (ab_bc mt_Cables_add) 63 = .ok (.ior, 1) := by decide +kernel
theorem d_Cables_add_64 : decode (ab_bc mt_Cables_add) 64 = .ok (.putfield 18, 3) := by decide +kernel
theorem d_Cables_add_67 : decode (ab_bc mt_Cables_add) 67 = .ok (.aload_n 0, 1) := by decide +kernel
theorem d_Cables_add_68 : decode (ab_bc mt_Cables_add) 68 = .ok (.dup, 1) := by decide +kernel
theorem d_Cables_add_69 : decode (ab_bc mt_Cables_add) 69 = .ok (.getfield 15, 3) := by decide +kernel
theorem d_Cables_add_72 : decode (ab_bc mt_Cables_add) 72 = .ok (.iconst 1, 1) := by decide +kernel
theorem d_Cables_add_73 : decode (ab_bc mt_Cables_add) 73 = .ok (.iadd, 1) := by decide +kernel
theorem d_Cables_add_74 : decode (ab_bc mt_Cables_add) 74 = .ok (.putfield 15, 3) := by decide +kernel
theorem d_Cables_add_77 : decode (ab_bc mt_Cables_add) 77 = .ok (.aload_n 0, 1) := by decide +kernel
theorem d_Cables_add_78 : decode (ab_bc mt_Cables_add) 78 = .ok (.getfield 15, 3) := by decide +kernel
theorem d_Cables_add_81 : decode (ab_bc mt_Cables_add) 81 = .ok (.iconst 1, 1) := by decide +kernel
theorem d_Cables_add_82 : decode (ab_bc mt_Cables_add) 82 = .ok (.isub, 1) := by decide +kernel
theorem d_Cables_add_83 : decode (ab_bc mt_Cables_add) 83 = .ok (.ireturn, 1) := by decide +kernel
-- CableKeeper$Cables.add(IIII)I over kx_now_cables
theorem q_Cables_add_0_0 {w : ab_Wd} {d n nc ns : Nat} {I : Nat → Nat → Int32} {L : Nat → Nat → Int64} {res : ab_Re} (v1 : Int32) (v2 : Int32) (v3 : Int32) (v4 : Int32) (hc : nc ≤ res.2.2.2.2.2.1) (hs : ns ≤ res.2.2.2.2.2.2)
    (h : (((I kx_now_cables 1) < 24 → ((vp_in (I kx_now_cables 1) 24) ∧ res = (.inl (some (.int (((I kx_now_cables 1) + 1) - 1))), ((ab_up (ab_up (ab_up (ab_up (ab_up (ab_up I kx_now_cables_first (I kx_now_cables 1).toNatClampNeg v1) kx_now_cables_second (I kx_now_cables 1).toNatClampNeg v2) kx_now_cables_price (I kx_now_cables 1).toNatClampNeg v3) kx_now_cables_firm (I kx_now_cables 1).toNatClampNeg v4) kx_now_cables 2 ((I kx_now_cables 2) ||| ((1 : Int32) <<< ((I kx_now_cables 1) &&& 31)))) kx_now_cables 1 ((I kx_now_cables 1) + 1)), L, ab_RR, n, nc, ns)))) ∧ (¬ (I kx_now_cables 1) < 24 → (res = (.inl (some (.int (-1))), (I, L, ab_RR, n, nc, ns)))))) : ab_E w d mt_Cables_add 0 [.ref kx_now_cables, .int v1, .int v2, .int v3, .int v4] [] (I, L, ab_RR, n, nc, ns) res := by
  refine ab_aload_n (i := 0) d_Cables_add_0 rfl rfl ?_
  refine ab_getI (ci := 1) (k := 1) d_Cables_add_1 v_192 rfl (by decide) (by decide) rfl ?_
  refine ab_bipush (v := 24) d_Cables_add_4 rfl ?_
  refine ab_icmp_lt (tgt := 11) d_Cables_add_6 (by decide) (fun c1 => ?_) (fun c1 => ?_)
  · have h := h.1 c1
    refine ab_aload_n (i := 0) d_Cables_add_11 rfl rfl ?_
    refine ab_getR (ci := 1) (k := 3) (j := kx_now_cables_first) d_Cables_add_12 v_204 rfl (by decide) (by decide) rfl r_kx_now_cables_3 ?_
    refine ab_aload_n (i := 0) d_Cables_add_15 rfl rfl ?_
    refine ab_getI (ci := 1) (k := 1) d_Cables_add_16 v_192 rfl (by decide) (by decide) rfl ?_
    refine ab_iload_n (i := 1) d_Cables_add_19 rfl rfl ?_
    have g2 := h.1; have h := h.2
    refine ab_iast d_Cables_add_20 rfl rfl g2 ?_
    refine ab_aload_n (i := 0) d_Cables_add_21 rfl rfl ?_
    refine ab_getR (ci := 1) (k := 4) (j := kx_now_cables_second) d_Cables_add_22 v_211 rfl (by decide) (by decide) rfl r_kx_now_cables_4 ?_
    refine ab_aload_n (i := 0) d_Cables_add_25 rfl rfl ?_
    refine ab_getI (ci := 1) (k := 1) d_Cables_add_26 v_192 rfl (by decide) (by decide) rfl ?_
    refine ab_iload_n (i := 2) d_Cables_add_29 rfl rfl ?_
    refine ab_iast d_Cables_add_30 rfl rfl g2 ?_
    refine ab_aload_n (i := 0) d_Cables_add_31 rfl rfl ?_
    refine ab_getR (ci := 1) (k := 5) (j := kx_now_cables_price) d_Cables_add_32 v_218 rfl (by decide) (by decide) rfl r_kx_now_cables_5 ?_
    refine ab_aload_n (i := 0) d_Cables_add_35 rfl rfl ?_
    refine ab_getI (ci := 1) (k := 1) d_Cables_add_36 v_192 rfl (by decide) (by decide) rfl ?_
    refine ab_iload_n (i := 3) d_Cables_add_39 rfl rfl ?_
    refine ab_iast d_Cables_add_40 rfl rfl g2 ?_
    refine ab_aload_n (i := 0) d_Cables_add_41 rfl rfl ?_
    refine ab_getR (ci := 1) (k := 6) (j := kx_now_cables_firm) d_Cables_add_42 v_226 rfl (by decide) (by decide) rfl r_kx_now_cables_6 ?_
    refine ab_aload_n (i := 0) d_Cables_add_45 rfl rfl ?_
    refine ab_getI (ci := 1) (k := 1) d_Cables_add_46 v_192 rfl (by decide) (by decide) rfl ?_
    refine ab_iload (i := 4) d_Cables_add_49 rfl ?_
    refine ab_iast d_Cables_add_51 rfl rfl g2 ?_
    refine ab_aload_n (i := 0) d_Cables_add_52 rfl rfl ?_
    refine ab_dupr d_Cables_add_53 ?_
    refine ab_getI (ci := 1) (k := 2) d_Cables_add_54 v_200 rfl (by decide) (by decide) rfl ?_
    refine ab_iconst (v := 1) d_Cables_add_57 rfl ?_
    refine ab_aload_n (i := 0) d_Cables_add_58 rfl rfl ?_
    refine ab_getI (ci := 1) (k := 1) d_Cables_add_59 v_192 rfl (by decide) (by decide) rfl ?_
    refine ab_ishl d_Cables_add_62 ?_
    refine ab_ior d_Cables_add_63 ?_
    refine ab_putI (ci := 1) (k := 2) d_Cables_add_64 v_200 rfl (by decide) (by decide) rfl (Or.inl rfl) rfl rfl ?_
    refine ab_aload_n (i := 0) d_Cables_add_67 rfl rfl ?_
    refine ab_dupr d_Cables_add_68 ?_
    refine ab_getI (ci := 1) (k := 1) d_Cables_add_69 v_192 rfl (by decide) (by decide) rfl ?_
    refine ab_iconst (v := 1) d_Cables_add_72 rfl ?_
    refine ab_iadd d_Cables_add_73 ?_
    refine ab_putI (ci := 1) (k := 1) d_Cables_add_74 v_192 rfl (by decide) (by decide) rfl (Or.inl rfl) rfl rfl ?_
    refine ab_aload_n (i := 0) d_Cables_add_77 rfl rfl ?_
    refine ab_getI (ci := 1) (k := 1) d_Cables_add_78 v_192 rfl (by decide) (by decide) rfl ?_
    refine ab_iconst (v := 1) d_Cables_add_81 rfl ?_
    refine ab_isub d_Cables_add_82 ?_
    exact ab_iret (ty := .int) d_Cables_add_83 rfl rfl h
  · have h := h.2 c1
    refine ab_iconst (v := (-1)) d_Cables_add_9 rfl ?_
    exact ab_iret (ty := .int) d_Cables_add_10 rfl rfl h
theorem d_Cables_hasSite_0 : decode (ab_bc mt_Cables_hasSite) 0 = .ok (.iload_n 1, 1) := by decide +kernel
theorem d_Cables_hasSite_1 : decode (ab_bc mt_Cables_hasSite) 1 = .ok (.ifCond .lt 15, 3) := by decide +kernel
theorem d_Cables_hasSite_4 : decode (ab_bc mt_Cables_hasSite) 4 = .ok (.iload_n 1, 1) := by decide +kernel
theorem d_Cables_hasSite_5 : decode (ab_bc mt_Cables_hasSite) 5 = .ok (.aload_n 0, 1) := by decide +kernel
theorem d_Cables_hasSite_6 : decode (ab_bc mt_Cables_hasSite) 6 = .ok (.getfield 9, 3) := by decide +kernel
theorem d_Cables_hasSite_9 : decode (ab_bc mt_Cables_hasSite) 9 = .ok (.if_icmp .ge 7, 3) := by decide +kernel
theorem d_Cables_hasSite_12 : decode (ab_bc mt_Cables_hasSite) 12 = .ok (.iconst 1, 1) := by decide +kernel
theorem d_Cables_hasSite_13 : decode (ab_bc mt_Cables_hasSite) 13 = .ok (.goto 4, 3) := by decide +kernel
theorem d_Cables_hasSite_16 : decode (ab_bc mt_Cables_hasSite) 16 = .ok (.iconst 0, 1) := by decide +kernel
theorem d_Cables_hasSite_17 : decode (ab_bc mt_Cables_hasSite) 17 = .ok (.ireturn, 1) := by decide +kernel
-- CableKeeper$Cables.hasSite(I)Z over kx_now_cables
theorem q_Cables_hasSite_0 {w : ab_Wd} {d n nc ns : Nat} {I : Nat → Nat → Int32} {L : Nat → Nat → Int64} {res : ab_Re} (v1 : Int32) (hc : nc ≤ res.2.2.2.2.2.1) (hs : ns ≤ res.2.2.2.2.2.2)
    (h : ((v1 < 0 → (ab_E w d mt_Cables_hasSite 16 [.ref kx_now_cables, .int v1] [] (I, L, ab_RR, n, nc, ns) res)) ∧ (¬ v1 < 0 → (((I kx_now_cables 0) ≤ v1 → (ab_E w d mt_Cables_hasSite 16 [.ref kx_now_cables, .int v1] [] (I, L, ab_RR, n, nc, ns) res)) ∧ (¬ (I kx_now_cables 0) ≤ v1 → (ab_E w d mt_Cables_hasSite 17 [.ref kx_now_cables, .int v1] [.int 1] (I, L, ab_RR, n, nc, ns) res)))))) : ab_E w d mt_Cables_hasSite 0 [.ref kx_now_cables, .int v1] [] (I, L, ab_RR, n, nc, ns) res := by
  refine ab_iload_n (i := 1) d_Cables_hasSite_0 rfl rfl ?_
  refine ab_if_lt (tgt := 16) d_Cables_hasSite_1 (by decide) (fun c1 => ?_) (fun c1 => ?_)
  · have h := h.1 c1
    exact h
  · have h := h.2 c1
    refine ab_iload_n (i := 1) d_Cables_hasSite_4 rfl rfl ?_
    refine ab_aload_n (i := 0) d_Cables_hasSite_5 rfl rfl ?_
    refine ab_getI (ci := 1) (k := 0) d_Cables_hasSite_6 v_185 rfl (by decide) (by decide) rfl ?_
    refine ab_icmp_ge (tgt := 16) d_Cables_hasSite_9 (by decide) (fun c2 => ?_) (fun c2 => ?_)
    · have h := h.1 c2
      exact h
    · have h := h.2 c2
      refine ab_iconst (v := 1) d_Cables_hasSite_12 rfl ?_
      refine ab_goto (tgt := 17) d_Cables_hasSite_13 (by decide) ?_
      exact h
theorem q_Cables_hasSite_16 {w : ab_Wd} {d n nc ns : Nat} {I : Nat → Nat → Int32} {L : Nat → Nat → Int64} {res : ab_Re} (v1 : Int32) (hc : nc ≤ res.2.2.2.2.2.1) (hs : ns ≤ res.2.2.2.2.2.2)
    (h : ab_E w d mt_Cables_hasSite 17 [.ref kx_now_cables, .int v1] [.int 0] (I, L, ab_RR, n, nc, ns) res) : ab_E w d mt_Cables_hasSite 16 [.ref kx_now_cables, .int v1] [] (I, L, ab_RR, n, nc, ns) res := by
  refine ab_iconst (v := 0) d_Cables_hasSite_16 rfl ?_
  exact h
theorem q_Cables_hasSite_17 {w : ab_Wd} {d n nc ns : Nat} {I : Nat → Nat → Int32} {L : Nat → Nat → Int64} {res : ab_Re} (v1 : Int32) (s0 : Int32) (hc : nc ≤ res.2.2.2.2.2.1) (hs : ns ≤ res.2.2.2.2.2.2)
    (h : (narrow .boolean (.int s0) = .int s0) ∧ res = (.inl (some (.int s0)), (I, L, ab_RR, n, nc, ns))) : ab_E w d mt_Cables_hasSite 17 [.ref kx_now_cables, .int v1] [.int s0] (I, L, ab_RR, n, nc, ns) res := by
  have g := h.1; have h := h.2
  exact ab_iret (ty := .boolean) d_Cables_hasSite_17 rfl g h
theorem d_Cables_sort_0 : decode (ab_bc mt_Cables_sort) 0 = .ok (.iconst 0, 1) := by decide +kernel
theorem d_Cables_sort_1 : decode (ab_bc mt_Cables_sort) 1 = .ok (.istore_n 1, 1) := by decide +kernel
theorem d_Cables_sort_2 : decode (ab_bc mt_Cables_sort) 2 = .ok (.iload_n 1, 1) := by decide +kernel
theorem d_Cables_sort_3 : decode (ab_bc mt_Cables_sort) 3 = .ok (.aload_n 0, 1) := by decide +kernel
theorem d_Cables_sort_4 : decode (ab_bc mt_Cables_sort) 4 = .ok (.getfield 15, 3) := by decide +kernel
theorem d_Cables_sort_7 : decode (ab_bc mt_Cables_sort) 7 = .ok (.if_icmp .ge 64, 3) := by decide +kernel
theorem d_Cables_sort_10 : decode (ab_bc mt_Cables_sort) 10 = .ok (.iload_n 1, 1) := by decide +kernel
theorem d_Cables_sort_11 : decode (ab_bc mt_Cables_sort) 11 = .ok (.istore_n 2, 1) := by decide +kernel
theorem d_Cables_sort_12 : decode (ab_bc mt_Cables_sort) 12 = .ok (.iload_n 2, 1) := by decide +kernel
theorem d_Cables_sort_13 : decode (ab_bc mt_Cables_sort) 13 = .ok (.ifCond .le 45, 3) := by decide +kernel
theorem d_Cables_sort_16 : decode (ab_bc mt_Cables_sort) 16 = .ok (.aload_n 0, 1) := by decide +kernel
theorem d_Cables_sort_17 : decode (ab_bc mt_Cables_sort) 17 = .ok (.getfield 28, 3) := by decide +kernel
theorem d_Cables_sort_20 : decode (ab_bc mt_Cables_sort) 20 = .ok (.aload_n 0, 1) := by decide +kernel
theorem d_Cables_sort_21 : decode (ab_bc mt_Cables_sort) 21 = .ok (.getfield 34, 3) := by decide +kernel
theorem d_Cables_sort_24 : decode (ab_bc mt_Cables_sort) 24 = .ok (.iload_n 2, 1) := by decide +kernel
theorem d_Cables_sort_25 : decode (ab_bc mt_Cables_sort) 25 = .ok (.iconst 1, 1) := by decide +kernel
theorem d_Cables_sort_26 : decode (ab_bc mt_Cables_sort) 26 = .ok (.isub, 1) := by decide +kernel
theorem d_Cables_sort_27 : decode (ab_bc mt_Cables_sort) 27 = .ok (.iaload, 1) := by decide +kernel
theorem d_Cables_sort_28 : decode (ab_bc mt_Cables_sort) 28 = .ok (.iaload, 1) := by decide +kernel
theorem d_Cables_sort_29 : decode (ab_bc mt_Cables_sort) 29 = .ok (.aload_n 0, 1) := by decide +kernel
theorem d_Cables_sort_30 : decode (ab_bc mt_Cables_sort) 30 = .ok (.getfield 28, 3) := by decide +kernel
theorem d_Cables_sort_33 : decode (ab_bc mt_Cables_sort) 33 = .ok (.iload_n 1, 1) := by decide +kernel
theorem d_Cables_sort_34 : decode (ab_bc mt_Cables_sort) 34 = .ok (.iaload, 1) := by decide +kernel
theorem d_Cables_sort_35 : decode (ab_bc mt_Cables_sort) 35 = .ok (.if_icmp .le 23, 3) := by decide +kernel
theorem d_Cables_sort_38 : decode (ab_bc mt_Cables_sort) 38 = .ok (.aload_n 0, 1) := by decide +kernel
theorem d_Cables_sort_39 : decode (ab_bc mt_Cables_sort) 39 = .ok (.getfield 34, 3) := by decide +kernel
theorem d_Cables_sort_42 : decode (ab_bc mt_Cables_sort) 42 = .ok (.iload_n 2, 1) := by decide +kernel
theorem d_Cables_sort_43 : decode (ab_bc mt_Cables_sort) 43 = .ok (.aload_n 0, 1) := by decide +kernel
theorem d_Cables_sort_44 : decode (ab_bc mt_Cables_sort) 44 = .ok (.getfield 34, 3) := by decide +kernel
theorem d_Cables_sort_47 : decode (ab_bc mt_Cables_sort) 47 = .ok (.iload_n 2, 1) := by decide +kernel
theorem d_Cables_sort_48 : decode (ab_bc mt_Cables_sort) 48 = .ok (.iconst 1, 1) := by decide +kernel
theorem d_Cables_sort_49 : decode (ab_bc mt_Cables_sort) 49 = .ok (.isub, 1) := by decide +kernel
theorem d_Cables_sort_50 : decode (ab_bc mt_Cables_sort) 50 = .ok (.iaload, 1) := by decide +kernel
theorem d_Cables_sort_51 : decode (ab_bc mt_Cables_sort) 51 = .ok (.iastore, 1) := by decide +kernel
theorem d_Cables_sort_52 : decode (ab_bc mt_Cables_sort) 52 = .ok (.iinc 2 (-1), 3) := by decide +kernel
theorem d_Cables_sort_55 : decode (ab_bc mt_Cables_sort) 55 = .ok (.goto (-43), 3) := by decide +kernel
theorem d_Cables_sort_58 : decode (ab_bc mt_Cables_sort) 58 = .ok (.aload_n 0, 1) := by decide +kernel
theorem d_Cables_sort_59 : decode (ab_bc mt_Cables_sort) 59 = .ok (.getfield 34, 3) := by decide +kernel
theorem d_Cables_sort_62 : decode (ab_bc mt_Cables_sort) 62 = .ok (.iload_n 2, 1) := by decide +kernel
theorem d_Cables_sort_63 : decode (ab_bc mt_Cables_sort) 63 = .ok (.iload_n 1, 1) := by decide +kernel
theorem d_Cables_sort_64 : decode (ab_bc mt_Cables_sort) 64 = .ok (.iastore, 1) := by decide +kernel
theorem d_Cables_sort_65 : decode (ab_bc mt_Cables_sort) 65 = .ok (.iinc 1 1, 3) := by decide +kernel
theorem d_Cables_sort_68 : decode (ab_bc mt_Cables_sort) 68 = .ok (.goto (-66), 3) := by decide +kernel
theorem d_Cables_sort_71 : decode (ab_bc mt_Cables_sort) 71 = .ok (.return_, 1) := by decide +kernel
-- CableKeeper$Cables.sort()V over kx_now_cables
theorem q_Cables_sort_0_0 {w : ab_Wd} {d n nc ns : Nat} {I : Nat → Nat → Int32} {L : Nat → Nat → Int64} {res : ab_Re}  (hc : nc ≤ res.2.2.2.2.2.1) (hs : ns ≤ res.2.2.2.2.2.2)
    (h : ab_E w d mt_Cables_sort 2 [.ref kx_now_cables, .int 0, .null] [] (I, L, ab_RR, n, nc, ns) res) : ab_E w d mt_Cables_sort 0 [.ref kx_now_cables, .null, .null] [] (I, L, ab_RR, n, nc, ns) res := by
  refine ab_iconst (v := 0) d_Cables_sort_0 rfl ?_
  refine ab_istore_n (i := 1) d_Cables_sort_1 rfl (by decide) (Or.inr rfl) ?_
  exact h
theorem q_Cables_sort_0_2 {w : ab_Wd} {d n nc ns : Nat} {I : Nat → Nat → Int32} {L : Nat → Nat → Int64} {res : ab_Re} (v1 : Int32) (hc : nc ≤ res.2.2.2.2.2.1) (hs : ns ≤ res.2.2.2.2.2.2)
    (h : (((I kx_now_cables 1) ≤ v1 → (res = (.inl none, (I, L, ab_RR, n, nc, ns)))) ∧ (¬ (I kx_now_cables 1) ≤ v1 → (ab_E w d mt_Cables_sort 12 [.ref kx_now_cables, .int v1, .int v1] [] (I, L, ab_RR, n, nc, ns) res)))) : ab_E w d mt_Cables_sort 2 [.ref kx_now_cables, .int v1, .null] [] (I, L, ab_RR, n, nc, ns) res := by
  refine ab_iload_n (i := 1) d_Cables_sort_2 rfl rfl ?_
  refine ab_aload_n (i := 0) d_Cables_sort_3 rfl rfl ?_
  refine ab_getI (ci := 1) (k := 1) d_Cables_sort_4 v_192 rfl (by decide) (by decide) rfl ?_
  refine ab_icmp_ge (tgt := 71) d_Cables_sort_7 (by decide) (fun c1 => ?_) (fun c1 => ?_)
  · have h := h.1 c1
    exact ab_vret d_Cables_sort_71 rfl h
  · have h := h.2 c1
    refine ab_iload_n (i := 1) d_Cables_sort_10 rfl rfl ?_
    refine ab_istore_n (i := 2) d_Cables_sort_11 rfl (by decide) (Or.inr rfl) ?_
    exact h
theorem q_Cables_sort_0_12 {w : ab_Wd} {d n nc ns : Nat} {I : Nat → Nat → Int32} {L : Nat → Nat → Int64} {res : ab_Re} (v1 : Int32) (v2 : Int32) (hc : nc ≤ res.2.2.2.2.2.1) (hs : ns ≤ res.2.2.2.2.2.2)
    (h : ((v2 ≤ 0 → (ab_E w d mt_Cables_sort 58 [.ref kx_now_cables, .int v1, .int v2] [] (I, L, ab_RR, n, nc, ns) res)) ∧ (¬ v2 ≤ 0 → ((vp_in (v2 - 1) 24) ∧ (vp_in (I kx_now_cables_order (v2 - 1).toNatClampNeg) 24) ∧ (vp_in v1 24) ∧ (((I kx_now_cables_price (I kx_now_cables_order (v2 - 1).toNatClampNeg).toNatClampNeg) ≤ (I kx_now_cables_price v1.toNatClampNeg) → (ab_E w d mt_Cables_sort 58 [.ref kx_now_cables, .int v1, .int v2] [] (I, L, ab_RR, n, nc, ns) res)) ∧ (¬ (I kx_now_cables_price (I kx_now_cables_order (v2 - 1).toNatClampNeg).toNatClampNeg) ≤ (I kx_now_cables_price v1.toNatClampNeg) → ((vp_in v2 24) ∧ ab_E w d mt_Cables_sort 12 [.ref kx_now_cables, .int v1, .int (v2 + (-1))] [] ((ab_up I kx_now_cables_order v2.toNatClampNeg (I kx_now_cables_order (v2 - 1).toNatClampNeg)), L, ab_RR, n, nc, ns) res))))))) : ab_E w d mt_Cables_sort 12 [.ref kx_now_cables, .int v1, .int v2] [] (I, L, ab_RR, n, nc, ns) res := by
  refine ab_iload_n (i := 2) d_Cables_sort_12 rfl rfl ?_
  refine ab_if_le (tgt := 58) d_Cables_sort_13 (by decide) (fun c1 => ?_) (fun c1 => ?_)
  · have h := h.1 c1
    exact h
  · have h := h.2 c1
    refine ab_aload_n (i := 0) d_Cables_sort_16 rfl rfl ?_
    refine ab_getR (ci := 1) (k := 5) (j := kx_now_cables_price) d_Cables_sort_17 v_218 rfl (by decide) (by decide) rfl r_kx_now_cables_5 ?_
    refine ab_aload_n (i := 0) d_Cables_sort_20 rfl rfl ?_
    refine ab_getR (ci := 1) (k := 7) (j := kx_now_cables_order) d_Cables_sort_21 v_229 rfl (by decide) (by decide) rfl r_kx_now_cables_7 ?_
    refine ab_iload_n (i := 2) d_Cables_sort_24 rfl rfl ?_
    refine ab_iconst (v := 1) d_Cables_sort_25 rfl ?_
    refine ab_isub d_Cables_sort_26 ?_
    have g2 := h.1; have h := h.2
    refine ab_iald d_Cables_sort_27 rfl rfl g2 ?_
    have g3 := h.1; have h := h.2
    refine ab_iald d_Cables_sort_28 rfl rfl g3 ?_
    refine ab_aload_n (i := 0) d_Cables_sort_29 rfl rfl ?_
    refine ab_getR (ci := 1) (k := 5) (j := kx_now_cables_price) d_Cables_sort_30 v_218 rfl (by decide) (by decide) rfl r_kx_now_cables_5 ?_
    refine ab_iload_n (i := 1) d_Cables_sort_33 rfl rfl ?_
    have g4 := h.1; have h := h.2
    refine ab_iald d_Cables_sort_34 rfl rfl g4 ?_
    refine ab_icmp_le (tgt := 58) d_Cables_sort_35 (by decide) (fun c5 => ?_) (fun c5 => ?_)
    · have h := h.1 c5
      exact h
    · have h := h.2 c5
      refine ab_aload_n (i := 0) d_Cables_sort_38 rfl rfl ?_
      refine ab_getR (ci := 1) (k := 7) (j := kx_now_cables_order) d_Cables_sort_39 v_229 rfl (by decide) (by decide) rfl r_kx_now_cables_7 ?_
      refine ab_iload_n (i := 2) d_Cables_sort_42 rfl rfl ?_
      refine ab_aload_n (i := 0) d_Cables_sort_43 rfl rfl ?_
      refine ab_getR (ci := 1) (k := 7) (j := kx_now_cables_order) d_Cables_sort_44 v_229 rfl (by decide) (by decide) rfl r_kx_now_cables_7 ?_
      refine ab_iload_n (i := 2) d_Cables_sort_47 rfl rfl ?_
      refine ab_iconst (v := 1) d_Cables_sort_48 rfl ?_
      refine ab_isub d_Cables_sort_49 ?_
      refine ab_iald d_Cables_sort_50 rfl rfl g2 ?_
      have g6 := h.1; have h := h.2
      refine ab_iast d_Cables_sort_51 rfl rfl g6 ?_
      refine ab_iinc (i := 2) (v := (v2 + (-1))) d_Cables_sort_52 rfl rfl (by decide) (Or.inr rfl) ?_
      refine ab_goto (tgt := 12) d_Cables_sort_55 (by decide) ?_
      exact h
theorem q_Cables_sort_0_58 {w : ab_Wd} {d n nc ns : Nat} {I : Nat → Nat → Int32} {L : Nat → Nat → Int64} {res : ab_Re} (v1 : Int32) (v2 : Int32) (hc : nc ≤ res.2.2.2.2.2.1) (hs : ns ≤ res.2.2.2.2.2.2)
    (h : (vp_in v2 24) ∧ ab_E w d mt_Cables_sort 2 [.ref kx_now_cables, .int (v1 + 1), .null] [] ((ab_up I kx_now_cables_order v2.toNatClampNeg v1), L, ab_RR, n, nc, ns) res) : ab_E w d mt_Cables_sort 58 [.ref kx_now_cables, .int v1, .int v2] [] (I, L, ab_RR, n, nc, ns) res := by
  refine ab_aload_n (i := 0) d_Cables_sort_58 rfl rfl ?_
  refine ab_getR (ci := 1) (k := 7) (j := kx_now_cables_order) d_Cables_sort_59 v_229 rfl (by decide) (by decide) rfl r_kx_now_cables_7 ?_
  refine ab_iload_n (i := 2) d_Cables_sort_62 rfl rfl ?_
  refine ab_iload_n (i := 1) d_Cables_sort_63 rfl rfl ?_
  have g1 := h.1; have h := h.2
  refine ab_iast d_Cables_sort_64 rfl rfl g1 ?_
  refine ab_iinc (i := 1) (v := (v1 + 1)) d_Cables_sort_65 rfl rfl (by decide) (Or.inr rfl) ?_
  refine ab_goto (tgt := 2) d_Cables_sort_68 (by decide) ?_
  refine ab_drop 2 ?_
  exact h
