theorem d_K_needCable_0 : decode (ab_bc mt_K_needCable) 0 = .ok (.aload_n 0, 1) := by decide +kernel
theorem d_K_needCable_1 : decode (ab_bc mt_K_needCable) 1 = .ok (.getfield 23, 3) := by decide +kernel
theorem d_K_needCable_4 : decode (ab_bc mt_K_needCable) 4 = .ok (.getfield 110, 3) := by decide +kernel
theorem d_K_needCable_7 : decode (ab_bc mt_K_needCable) 7 = .ok (.iload_n 1, 1) := by decide +kernel
theorem d_K_needCable_8 : decode (ab_bc mt_K_needCable) 8 = .ok (.invokevirtual 329, 3) := by decide +kernel
theorem d_K_needCable_11 : decode (ab_bc mt_K_needCable) 11 = .ok (.ifCond .ne 11, 3) := by decide +kernel
theorem d_K_needCable_14 : decode (ab_bc mt_K_needCable) 14 = .ok (.new 183, 3) := by decide +kernel
theorem d_K_needCable_17 : decode (ab_bc mt_K_needCable) 17 = .ok (.dup, 1) := by decide +kernel
theorem d_K_needCable_18 : decode (ab_bc mt_K_needCable) 18 = .ok (.invokespecial 185, 3) := by decide +kernel
theorem d_K_needCable_21 : decode (ab_bc mt_K_needCable) 21 = .ok (.athrow, 1) := by decide +kernel
theorem d_K_needCable_22 : decode (ab_bc mt_K_needCable) 22 = .ok (.return_, 1) := by decide +kernel
-- CableKeeper.needCable(I)V over kx
theorem q_K_needCable_0 {w : ab_Wd} {d n nc ns : Nat} {I : Nat → Nat → Int32} {L : Nat → Nat → Int64} {res : ab_Re} (v1 : Int32) (h8 : 8 ≤ (d + 1)) (hc : nc ≤ res.2.2.2.2.2.1) (hs : ns ≤ res.2.2.2.2.2.2)
    (h : ∃ (r1 : Int32), ab_C w d mt_Cables_has [.ref kx_now_cables, .int v1] (I, L, ab_RR, n, nc, ns) (.inl (some (.int r1)), (I, L, ab_RR, n, nc, ns)) ∧ ((¬ r1 = 0 → (res = (.inl none, (I, L, ab_RR, n, nc, ns)))) ∧ (r1 = 0 → (res = (.inr "java/util/NoSuchElementException", (I, L, ab_RR, n, nc + 1, ns + 6)))))) : ab_E w (d + 1) mt_K_needCable 0 [.ref kx, .int v1] [] (I, L, ab_RR, n, nc, ns) res := by
  refine ab_aload_n (i := 0) d_K_needCable_0 rfl rfl ?_
  refine ab_getR (ci := 10) (k := 3) (j := kx_now) d_K_needCable_1 v_475 rfl (by decide) (by decide) rfl r_kx_3 ?_
  refine ab_getR (ci := 6) (k := 0) (j := kx_now_cables) d_K_needCable_4 v_294 rfl (by decide) (by decide) rfl r_kx_now_0 ?_
  refine ab_iload_n (i := 1) d_K_needCable_7 rfl rfl ?_
  obtain ⟨r1, hC, h⟩ := h
  refine ab_callV (me2 := mt_Cables_has) (b := kx_now_cables) (as := [.int v1]) (st := []) (rv := (some (.int r1))) (M2 := (I, L, ab_RR, n, nc, ns)) d_K_needCable_8 ce_Cables_has v_567 v_568 v_569 (by decide) rfl (by decide) hC (Nat.le_refl _) (Nat.le_refl _) hc hs (fun j h9 => by cases h9) (fun _ _ => rfl) ?_
  show ab_E w (d + 1) mt_K_needCable 11 [.ref kx, .int v1] [.int r1] (I, L, ab_RR, n, nc, ns) res
  refine ab_if_ne (tgt := 22) d_K_needCable_11 (by decide) (fun c2 => ?_) (fun c2 => ?_)
  · have h := h.1 c2
    exact ab_vret d_K_needCable_22 rfl h
  · have h := h.2 c2
    exact ab_throw (E := "java/util/NoSuchElementException") d_K_needCable_14 d_K_needCable_17 d_K_needCable_18 d_K_needCable_21 (by decide +kernel) v_1049 v_163 x3_K_185 x4_K_185 h8 (by decide) h
theorem d_K_isInside_0 : decode (ab_bc mt_K_isInside) 0 = .ok (.aload_n 0, 1) := by decide +kernel
theorem d_K_isInside_1 : decode (ab_bc mt_K_isInside) 1 = .ok (.getfield 37, 3) := by decide +kernel
theorem d_K_isInside_4 : decode (ab_bc mt_K_isInside) 4 = .ok (.getfield 122, 3) := by decide +kernel
theorem d_K_isInside_7 : decode (ab_bc mt_K_isInside) 7 = .ok (.iload_n 1, 1) := by decide +kernel
theorem d_K_isInside_8 : decode (ab_bc mt_K_isInside) 8 = .ok (.ishr, 1) := by decide +kernel
theorem d_K_isInside_9 : decode (ab_bc mt_K_isInside) 9 = .ok (.iconst 1, 1) := by decide +kernel
theorem d_K_isInside_10 : decode (ab_bc mt_K_isInside) 10 = .ok (.iand, 1) := by decide +kernel
theorem d_K_isInside_11 : decode (ab_bc mt_K_isInside) 11 = .ok (.iconst 1, 1) := by decide +kernel
theorem d_K_isInside_12 : decode (ab_bc mt_K_isInside) 12 = .ok (.if_icmp .ne 7, 3) := by decide +kernel
theorem d_K_isInside_15 : decode (ab_bc mt_K_isInside) 15 = .ok (.iconst 1, 1) := by decide +kernel
theorem d_K_isInside_16 : decode (ab_bc mt_K_isInside) 16 = .ok (.goto 4, 3) := by decide +kernel
theorem d_K_isInside_19 : decode (ab_bc mt_K_isInside) 19 = .ok (.iconst 0, 1) := by decide +kernel
theorem d_K_isInside_20 : decode (ab_bc mt_K_isInside) 20 = .ok (.ireturn, 1) := by decide +kernel
-- CableKeeper.isInside(I)Z over kx
theorem q_K_isInside_0 {w : ab_Wd} {d n nc ns : Nat} {I : Nat → Nat → Int32} {L : Nat → Nat → Int64} {res : ab_Re} (v1 : Int32) (hc : nc ≤ res.2.2.2.2.2.1) (hs : ns ≤ res.2.2.2.2.2.2)
    (h : ((¬ (((I kx_forest 2) >>> (v1 &&& 31)) &&& 1) = 1 → (ab_E w d mt_K_isInside 20 [.ref kx, .int v1] [.int 0] (I, L, ab_RR, n, nc, ns) res)) ∧ ((((I kx_forest 2) >>> (v1 &&& 31)) &&& 1) = 1 → (ab_E w d mt_K_isInside 20 [.ref kx, .int v1] [.int 1] (I, L, ab_RR, n, nc, ns) res)))) : ab_E w d mt_K_isInside 0 [.ref kx, .int v1] [] (I, L, ab_RR, n, nc, ns) res := by
  refine ab_aload_n (i := 0) d_K_isInside_0 rfl rfl ?_
  refine ab_getR (ci := 10) (k := 6) (j := kx_forest) d_K_isInside_1 v_478 rfl (by decide) (by decide) rfl r_kx_6 ?_
  refine ab_getI (ci := 2) (k := 2) d_K_isInside_4 v_335 rfl (by decide) (by decide) rfl ?_
  refine ab_iload_n (i := 1) d_K_isInside_7 rfl rfl ?_
  refine ab_ishr d_K_isInside_8 ?_
  refine ab_iconst (v := 1) d_K_isInside_9 rfl ?_
  refine ab_iand d_K_isInside_10 ?_
  refine ab_iconst (v := 1) d_K_isInside_11 rfl ?_
  refine ab_icmp_ne (tgt := 19) d_K_isInside_12 (by decide) (fun c1 => ?_) (fun c1 => ?_)
  · have h := h.1 c1
    refine ab_iconst (v := 0) d_K_isInside_19 rfl ?_
    exact h
  · have h := h.2 c1
    refine ab_iconst (v := 1) d_K_isInside_15 rfl ?_
    refine ab_goto (tgt := 20) d_K_isInside_16 (by decide) ?_
    exact h
theorem q_K_isInside_20 {w : ab_Wd} {d n nc ns : Nat} {I : Nat → Nat → Int32} {L : Nat → Nat → Int64} {res : ab_Re} (v1 : Int32) (s0 : Int32) (hc : nc ≤ res.2.2.2.2.2.1) (hs : ns ≤ res.2.2.2.2.2.2)
    (h : (narrow .boolean (.int s0) = .int s0) ∧ res = (.inl (some (.int s0)), (I, L, ab_RR, n, nc, ns))) : ab_E w d mt_K_isInside 20 [.ref kx, .int v1] [.int s0] (I, L, ab_RR, n, nc, ns) res := by
  have g := h.1; have h := h.2
  exact ab_iret (ty := .boolean) d_K_isInside_20 rfl g h
theorem d_K_lowestOf_0 : decode (ab_bc mt_K_lowestOf) 0 = .ok (.iconst 0, 1) := by decide +kernel
theorem d_K_lowestOf_1 : decode (ab_bc mt_K_lowestOf) 1 = .ok (.istore_n 1, 1) := by decide +kernel
theorem d_K_lowestOf_2 : decode (ab_bc mt_K_lowestOf) 2 = .ok (.iload_n 1, 1) := by decide +kernel
theorem d_K_lowestOf_3 : decode (ab_bc mt_K_lowestOf) 3 = .ok (.bipush 24, 2) := by decide +kernel
theorem d_K_lowestOf_5 : decode (ab_bc mt_K_lowestOf) 5 = .ok (.if_icmp .ge 20, 3) := by decide +kernel
theorem d_K_lowestOf_8 : decode (ab_bc mt_K_lowestOf) 8 = .ok (.iload_n 0, 1) := by decide +kernel
theorem d_K_lowestOf_9 : decode (ab_bc mt_K_lowestOf) 9 = .ok (.iload_n 1, 1) := by decide +kernel
theorem d_K_lowestOf_10 : decode (ab_bc mt_K_lowestOf) 10 = .ok (.ishr, 1) := by decide +kernel
theorem d_K_lowestOf_11 : decode (ab_bc mt_K_lowestOf) 11 = .ok (.iconst 1, 1) := by decide +kernel
theorem d_K_lowestOf_12 : decode (ab_bc mt_K_lowestOf) 12 = .ok (.iand, 1) := by decide +kernel
theorem d_K_lowestOf_13 : decode (ab_bc mt_K_lowestOf) 13 = .ok (.iconst 1, 1) := by decide +kernel
theorem d_K_lowestOf_14 : decode (ab_bc mt_K_lowestOf) 14 = .ok (.if_icmp .ne 5, 3) := by decide +kernel
theorem d_K_lowestOf_17 : decode (ab_bc mt_K_lowestOf) 17 = .ok (.iload_n 1, 1) := by decide +kernel
theorem d_K_lowestOf_18 : decode (ab_bc mt_K_lowestOf) 18 = .ok (.ireturn, 1) := by decide +kernel
theorem d_K_lowestOf_19 : decode (ab_bc mt_K_lowestOf) 19 = .ok (.iinc 1 1, 3) := by decide +kernel
theorem d_K_lowestOf_22 : decode (ab_bc mt_K_lowestOf) 22 = .ok (.goto (-20), 3) := by decide +kernel
theorem d_K_lowestOf_25 : decode (ab_bc mt_K_lowestOf) 25 = .ok (.iconst (-1), 1) := by decide +kernel
theorem d_K_lowestOf_26 : decode (ab_bc mt_K_lowestOf) 26 = .ok (.ireturn, 1) := by decide +kernel
-- CableKeeper.lowestOf(I)I over 
theorem q_K_lowestOf_0 {w : ab_Wd} {d n nc ns : Nat} {I : Nat → Nat → Int32} {L : Nat → Nat → Int64} {res : ab_Re} (v0 : Int32) (hc : nc ≤ res.2.2.2.2.2.1) (hs : ns ≤ res.2.2.2.2.2.2)
    (h : ab_E w d mt_K_lowestOf 2 [.int v0, .int 0] [] (I, L, ab_RR, n, nc, ns) res) : ab_E w d mt_K_lowestOf 0 [.int v0, .null] [] (I, L, ab_RR, n, nc, ns) res := by
  refine ab_iconst (v := 0) d_K_lowestOf_0 rfl ?_
  refine ab_istore_n (i := 1) d_K_lowestOf_1 rfl (by decide) (Or.inr rfl) ?_
  exact h
theorem q_K_lowestOf_2 {w : ab_Wd} {d n nc ns : Nat} {I : Nat → Nat → Int32} {L : Nat → Nat → Int64} {res : ab_Re} (v0 : Int32) (v1 : Int32) (hc : nc ≤ res.2.2.2.2.2.1) (hs : ns ≤ res.2.2.2.2.2.2)
    (h : ((24 ≤ v1 → (res = (.inl (some (.int (-1))), (I, L, ab_RR, n, nc, ns)))) ∧ (¬ 24 ≤ v1 → ((¬ ((v0 >>> (v1 &&& 31)) &&& 1) = 1 → (ab_E w d mt_K_lowestOf 2 [.int v0, .int (v1 + 1)] [] (I, L, ab_RR, n, nc, ns) res)) ∧ (((v0 >>> (v1 &&& 31)) &&& 1) = 1 → (res = (.inl (some (.int v1)), (I, L, ab_RR, n, nc, ns)))))))) : ab_E w d mt_K_lowestOf 2 [.int v0, .int v1] [] (I, L, ab_RR, n, nc, ns) res := by
  refine ab_iload_n (i := 1) d_K_lowestOf_2 rfl rfl ?_
  refine ab_bipush (v := 24) d_K_lowestOf_3 rfl ?_
  refine ab_icmp_ge (tgt := 25) d_K_lowestOf_5 (by decide) (fun c1 => ?_) (fun c1 => ?_)
  · have h := h.1 c1
    refine ab_iconst (v := (-1)) d_K_lowestOf_25 rfl ?_
    exact ab_iret (ty := .int) d_K_lowestOf_26 rfl rfl h
  · have h := h.2 c1
    refine ab_iload_n (i := 0) d_K_lowestOf_8 rfl rfl ?_
    refine ab_iload_n (i := 1) d_K_lowestOf_9 rfl rfl ?_
    refine ab_ishr d_K_lowestOf_10 ?_
    refine ab_iconst (v := 1) d_K_lowestOf_11 rfl ?_
    refine ab_iand d_K_lowestOf_12 ?_
    refine ab_iconst (v := 1) d_K_lowestOf_13 rfl ?_
    refine ab_icmp_ne (tgt := 19) d_K_lowestOf_14 (by decide) (fun c2 => ?_) (fun c2 => ?_)
    · have h := h.1 c2
      refine ab_iinc (i := 1) (v := (v1 + 1)) d_K_lowestOf_19 rfl rfl (by decide) (Or.inr rfl) ?_
      refine ab_goto (tgt := 2) d_K_lowestOf_22 (by decide) ?_
      exact h
    · have h := h.2 c2
      refine ab_iload_n (i := 1) d_K_lowestOf_17 rfl rfl ?_
      exact ab_iret (ty := .int) d_K_lowestOf_18 rfl rfl h
theorem d_K_unite_0 : decode (ab_bc mt_K_unite) 0 = .ok (.aload_n 0, 1) := by decide +kernel
theorem d_K_unite_1 : decode (ab_bc mt_K_unite) 1 = .ok (.iload_n 1, 1) := by decide +kernel
theorem d_K_unite_2 : decode (ab_bc mt_K_unite) 2 = .ok (.iaload, 1) := by decide +kernel
theorem d_K_unite_3 : decode (ab_bc mt_K_unite) 3 = .ok (.aload_n 0, 1) := by decide +kernel
theorem d_K_unite_4 : decode (ab_bc mt_K_unite) 4 = .ok (.iload_n 2, 1) := by decide +kernel
theorem d_K_unite_5 : decode (ab_bc mt_K_unite) 5 = .ok (.iaload, 1) := by decide +kernel
theorem d_K_unite_6 : decode (ab_bc mt_K_unite) 6 = .ok (.invokestatic 279, 3) := by decide +kernel
theorem d_K_unite_9 : decode (ab_bc mt_K_unite) 9 = .ok (.istore_n 3, 1) := by decide +kernel
theorem d_K_unite_10 : decode (ab_bc mt_K_unite) 10 = .ok (.aload_n 0, 1) := by decide +kernel
theorem d_K_unite_11 : decode (ab_bc mt_K_unite) 11 = .ok (.iload_n 1, 1) := by decide +kernel
theorem d_K_unite_12 : decode (ab_bc mt_K_unite) 12 = .ok (.iaload, 1) := by decide +kernel
theorem d_K_unite_13 : decode (ab_bc mt_K_unite) 13 = .ok (.aload_n 0, 1) := by decide +kernel
theorem d_K_unite_14 : decode (ab_bc mt_K_unite) 14 = .ok (.iload_n 2, 1) := by decide +kernel
theorem d_K_unite_15 : decode (ab_bc mt_K_unite) 15 = .ok (.iaload, 1) := by decide +kernel
theorem d_K_unite_16 : decode (ab_bc mt_K_unite) 16 = .ok (.invokestatic 378, 3) := by decide +kernel
theorem d_K_unite_19 : decode (ab_bc mt_K_unite) 19 = .ok (.istore 4, 2) := by decide +kernel
theorem d_K_unite_21 : decode (ab_bc mt_K_unite) 21 = .ok (.iload_n 3, 1) := by decide +kernel
theorem d_K_unite_22 : decode (ab_bc mt_K_unite) 22 = .ok (.iload 4, 2) := by decide +kernel
theorem d_K_unite_24 : decode (ab_bc mt_K_unite) 24 = .ok (.if_icmp .ne 5, 3) := by decide +kernel
theorem d_K_unite_27 : decode (ab_bc mt_K_unite) 27 = .ok (.iconst 0, 1) := by decide +kernel
theorem d_K_unite_28 : decode (ab_bc mt_K_unite) 28 = .ok (.ireturn, 1) := by decide +kernel
theorem d_K_unite_29 : decode (ab_bc mt_K_unite) 29 = .ok (.iload 4, 2) := by decide +kernel
theorem d_K_unite_31 : decode (ab_bc mt_K_unite) 31 = .ok (.istore 5, 2) := by decide +kernel
theorem d_K_unite_33 : decode (ab_bc mt_K_unite) 33 = .ok (.iload 5, 2) := by decide +kernel
theorem d_K_unite_35 : decode (ab_bc mt_K_unite) 35 = .ok (.aload_n 0, 1) := by decide +kernel
theorem d_K_unite_36 : decode (ab_bc mt_K_unite) 36 = .ok (.arraylength, 1) := by decide +kernel
theorem d_K_unite_37 : decode (ab_bc mt_K_unite) 37 = .ok (.if_icmp .ge 23, 3) := by decide +kernel
theorem d_K_unite_40 : decode (ab_bc mt_K_unite) 40 = .ok (.aload_n 0, 1) := by decide +kernel
theorem d_K_unite_41 : decode (ab_bc mt_K_unite) 41 = .ok (.iload 5, 2) := by decide +kernel
theorem d_K_unite_43 : decode (ab_bc mt_K_unite) 43 = .ok (.iaload, 1) := by decide +kernel
theorem d_K_unite_44 : decode (ab_bc mt_K_unite) 44 = .ok (.iload 4, 2) := by decide +kernel
theorem d_K_unite_46 : decode (ab_bc mt_K_unite) 46 = .ok (.if_icmp .ne 8, 3) := by decide +kernel
theorem d_K_unite_49 : decode (ab_bc mt_K_unite) 49 = .ok (.aload_n 0, 1) := by decide +kernel
theorem d_K_unite_50 : decode (ab_bc mt_K_unite) 50 = .ok (.iload 5, 2) := by decide +kernel
theorem d_K_unite_52 : decode (ab_bc mt_K_unite) 52 = .ok (.iload_n 3, 1) := by decide +kernel
theorem d_K_unite_53 : decode (ab_bc mt_K_unite) 53 = .ok (.iastore, 1) := by decide +kernel
theorem d_K_unite_54 : decode (ab_bc mt_K_unite) 54 = .ok (.iinc 5 1, 3) := by decide +kernel
theorem d_K_unite_57 : decode (ab_bc mt_K_unite) 57 = .ok (.goto (-24), 3) := by decide +kernel
theorem d_K_unite_60 : decode (ab_bc mt_K_unite) 60 = .ok (.iconst 1, 1) := by decide +kernel
theorem d_K_unite_61 : decode (ab_bc mt_K_unite) 61 = .ok (.ireturn, 1) := by decide +kernel
-- CableKeeper.unite([III)Z over kx_trialNet_piece
theorem q_K_unite_0_0 {w : ab_Wd} {d n nc ns : Nat} {I : Nat → Nat → Int32} {L : Nat → Nat → Int64} {res : ab_Re} (v1 : Int32) (v2 : Int32) (hc : nc ≤ res.2.2.2.2.2.1) (hs : ns ≤ res.2.2.2.2.2.2)
    (h : (vp_in v1 10) ∧ (vp_in v2 10) ∧ (vp_in v1 10) ∧ (vp_in v2 10) ∧ ((¬ (ab_min32 (I kx_trialNet_piece v1.toNatClampNeg) (I kx_trialNet_piece v2.toNatClampNeg)) = (ab_max32 (I kx_trialNet_piece v1.toNatClampNeg) (I kx_trialNet_piece v2.toNatClampNeg)) → (ab_E w (d + 1) mt_K_unite 33 [.ref kx_trialNet_piece, .int v1, .int v2, .int (ab_min32 (I kx_trialNet_piece v1.toNatClampNeg) (I kx_trialNet_piece v2.toNatClampNeg)), .int (ab_max32 (I kx_trialNet_piece v1.toNatClampNeg) (I kx_trialNet_piece v2.toNatClampNeg)), .int (ab_max32 (I kx_trialNet_piece v1.toNatClampNeg) (I kx_trialNet_piece v2.toNatClampNeg))] [] (I, L, ab_RR, n, nc, ns) res)) ∧ ((ab_min32 (I kx_trialNet_piece v1.toNatClampNeg) (I kx_trialNet_piece v2.toNatClampNeg)) = (ab_max32 (I kx_trialNet_piece v1.toNatClampNeg) (I kx_trialNet_piece v2.toNatClampNeg)) → (res = (.inl (some (.int 0)), (I, L, ab_RR, n, nc, ns)))))) : ab_E w (d + 1) mt_K_unite 0 [.ref kx_trialNet_piece, .int v1, .int v2, .null, .null, .null] [] (I, L, ab_RR, n, nc, ns) res := by
  refine ab_aload_n (i := 0) d_K_unite_0 rfl rfl ?_
  refine ab_iload_n (i := 1) d_K_unite_1 rfl rfl ?_
  have g1 := h.1; have h := h.2
  refine ab_iald d_K_unite_2 rfl rfl g1 ?_
  refine ab_aload_n (i := 0) d_K_unite_3 rfl rfl ?_
  refine ab_iload_n (i := 2) d_K_unite_4 rfl rfl ?_
  have g2 := h.1; have h := h.2
  refine ab_iald d_K_unite_5 rfl rfl g2 ?_
  refine ab_min d_K_unite_6 v_447 v_448 v_150 v_449 (Nat.succ_le_succ (Nat.zero_le _)) (by decide) hc hs ?_
  refine ab_istore_n (i := 3) d_K_unite_9 rfl (by decide) (Or.inr rfl) ?_
  refine ab_aload_n (i := 0) d_K_unite_10 rfl rfl ?_
  refine ab_iload_n (i := 1) d_K_unite_11 rfl rfl ?_
  have g3 := h.1; have h := h.2
  refine ab_iald d_K_unite_12 rfl rfl g3 ?_
  refine ab_aload_n (i := 0) d_K_unite_13 rfl rfl ?_
  refine ab_iload_n (i := 2) d_K_unite_14 rfl rfl ?_
  have g4 := h.1; have h := h.2
  refine ab_iald d_K_unite_15 rfl rfl g4 ?_
  refine ab_max d_K_unite_16 v_450 v_451 v_150 v_452 (Nat.succ_le_succ (Nat.zero_le _)) (by decide) hc hs ?_
  refine ab_istore (i := 4) d_K_unite_19 (by decide) (Or.inr rfl) ?_
  refine ab_iload_n (i := 3) d_K_unite_21 rfl rfl ?_
  refine ab_iload (i := 4) d_K_unite_22 rfl ?_
  refine ab_icmp_ne (tgt := 29) d_K_unite_24 (by decide) (fun c5 => ?_) (fun c5 => ?_)
  · have h := h.1 c5
    refine ab_iload (i := 4) d_K_unite_29 rfl ?_
    refine ab_istore (i := 5) d_K_unite_31 (by decide) (Or.inr rfl) ?_
    exact h
  · have h := h.2 c5
    refine ab_iconst (v := 0) d_K_unite_27 rfl ?_
    exact ab_iret (ty := .boolean) d_K_unite_28 rfl rfl h
theorem q_K_unite_0_33 {w : ab_Wd} {d n nc ns : Nat} {I : Nat → Nat → Int32} {L : Nat → Nat → Int64} {res : ab_Re} (v1 : Int32) (v2 : Int32) (v3 : Int32) (v4 : Int32) (v5 : Int32) (hc : nc ≤ res.2.2.2.2.2.1) (hs : ns ≤ res.2.2.2.2.2.2)
    (h : ((10 ≤ v5 → (res = (.inl (some (.int 1)), (I, L, ab_RR, n, nc, ns)))) ∧ (¬ 10 ≤ v5 → ((vp_in v5 10) ∧ ((¬ (I kx_trialNet_piece v5.toNatClampNeg) = v4 → (ab_E w (d + 1) mt_K_unite 54 [.ref kx_trialNet_piece, .int v1, .int v2, .int v3, .int v4, .int v5] [] (I, L, ab_RR, n, nc, ns) res)) ∧ ((I kx_trialNet_piece v5.toNatClampNeg) = v4 → ((vp_in v5 10) ∧ ab_E w (d + 1) mt_K_unite 54 [.ref kx_trialNet_piece, .int v1, .int v2, .int v3, .int v4, .int v5] [] ((ab_up I kx_trialNet_piece v5.toNatClampNeg v3), L, ab_RR, n, nc, ns) res))))))) : ab_E w (d + 1) mt_K_unite 33 [.ref kx_trialNet_piece, .int v1, .int v2, .int v3, .int v4, .int v5] [] (I, L, ab_RR, n, nc, ns) res := by
  refine ab_iload (i := 5) d_K_unite_33 rfl ?_
  refine ab_aload_n (i := 0) d_K_unite_35 rfl rfl ?_
  refine ab_alen (v := 10) d_K_unite_36 (by decide) (by decide) rfl ?_
  refine ab_icmp_ge (tgt := 60) d_K_unite_37 (by decide) (fun c1 => ?_) (fun c1 => ?_)
  · have h := h.1 c1
    refine ab_iconst (v := 1) d_K_unite_60 rfl ?_
    exact ab_iret (ty := .boolean) d_K_unite_61 rfl rfl h
  · have h := h.2 c1
    refine ab_aload_n (i := 0) d_K_unite_40 rfl rfl ?_
    refine ab_iload (i := 5) d_K_unite_41 rfl ?_
    have g2 := h.1; have h := h.2
    refine ab_iald d_K_unite_43 rfl rfl g2 ?_
    refine ab_iload (i := 4) d_K_unite_44 rfl ?_
    refine ab_icmp_ne (tgt := 54) d_K_unite_46 (by decide) (fun c3 => ?_) (fun c3 => ?_)
    · have h := h.1 c3
      exact h
    · have h := h.2 c3
      refine ab_aload_n (i := 0) d_K_unite_49 rfl rfl ?_
      refine ab_iload (i := 5) d_K_unite_50 rfl ?_
      refine ab_iload_n (i := 3) d_K_unite_52 rfl rfl ?_
      have g4 := h.1; have h := h.2
      refine ab_iast d_K_unite_53 rfl rfl g4 ?_
      exact h
theorem q_K_unite_0_54 {w : ab_Wd} {d n nc ns : Nat} {I : Nat → Nat → Int32} {L : Nat → Nat → Int64} {res : ab_Re} (v1 : Int32) (v2 : Int32) (v3 : Int32) (v4 : Int32) (v5 : Int32) (hc : nc ≤ res.2.2.2.2.2.1) (hs : ns ≤ res.2.2.2.2.2.2)
    (h : ab_E w (d + 1) mt_K_unite 33 [.ref kx_trialNet_piece, .int v1, .int v2, .int v3, .int v4, .int (v5 + 1)] [] (I, L, ab_RR, n, nc, ns) res) : ab_E w (d + 1) mt_K_unite 54 [.ref kx_trialNet_piece, .int v1, .int v2, .int v3, .int v4, .int v5] [] (I, L, ab_RR, n, nc, ns) res := by
  refine ab_iinc (i := 5) (v := (v5 + 1)) d_K_unite_54 rfl rfl (by decide) (Or.inr rfl) ?_
  refine ab_goto (tgt := 33) d_K_unite_57 (by decide) ?_
  exact h
-- CableKeeper.unite([III)Z over kx_forest_piece
theorem q_K_unite_1_0 {w : ab_Wd} {d n nc ns : Nat} {I : Nat → Nat → Int32} {L : Nat → Nat → Int64} {res : ab_Re} (v1 : Int32) (v2 : Int32) (hc : nc ≤ res.2.2.2.2.2.1) (hs : ns ≤ res.2.2.2.2.2.2)
    (h : (vp_in v1 10) ∧ (vp_in v2 10) ∧ (vp_in v1 10) ∧ (vp_in v2 10) ∧ ((¬ (ab_min32 (I kx_forest_piece v1.toNatClampNeg) (I kx_forest_piece v2.toNatClampNeg)) = (ab_max32 (I kx_forest_piece v1.toNatClampNeg) (I kx_forest_piece v2.toNatClampNeg)) → (ab_E w (d + 1) mt_K_unite 33 [.ref kx_forest_piece, .int v1, .int v2, .int (ab_min32 (I kx_forest_piece v1.toNatClampNeg) (I kx_forest_piece v2.toNatClampNeg)), .int (ab_max32 (I kx_forest_piece v1.toNatClampNeg) (I kx_forest_piece v2.toNatClampNeg)), .int (ab_max32 (I kx_forest_piece v1.toNatClampNeg) (I kx_forest_piece v2.toNatClampNeg))] [] (I, L, ab_RR, n, nc, ns) res)) ∧ ((ab_min32 (I kx_forest_piece v1.toNatClampNeg) (I kx_forest_piece v2.toNatClampNeg)) = (ab_max32 (I kx_forest_piece v1.toNatClampNeg) (I kx_forest_piece v2.toNatClampNeg)) → (res = (.inl (some (.int 0)), (I, L, ab_RR, n, nc, ns)))))) : ab_E w (d + 1) mt_K_unite 0 [.ref kx_forest_piece, .int v1, .int v2, .null, .null, .null] [] (I, L, ab_RR, n, nc, ns) res := by
  refine ab_aload_n (i := 0) d_K_unite_0 rfl rfl ?_
  refine ab_iload_n (i := 1) d_K_unite_1 rfl rfl ?_
  have g1 := h.1; have h := h.2
  refine ab_iald d_K_unite_2 rfl rfl g1 ?_
  refine ab_aload_n (i := 0) d_K_unite_3 rfl rfl ?_
  refine ab_iload_n (i := 2) d_K_unite_4 rfl rfl ?_
  have g2 := h.1; have h := h.2
  refine ab_iald d_K_unite_5 rfl rfl g2 ?_
  refine ab_min d_K_unite_6 v_447 v_448 v_150 v_449 (Nat.succ_le_succ (Nat.zero_le _)) (by decide) hc hs ?_
  refine ab_istore_n (i := 3) d_K_unite_9 rfl (by decide) (Or.inr rfl) ?_
  refine ab_aload_n (i := 0) d_K_unite_10 rfl rfl ?_
  refine ab_iload_n (i := 1) d_K_unite_11 rfl rfl ?_
  have g3 := h.1; have h := h.2
  refine ab_iald d_K_unite_12 rfl rfl g3 ?_
  refine ab_aload_n (i := 0) d_K_unite_13 rfl rfl ?_
  refine ab_iload_n (i := 2) d_K_unite_14 rfl rfl ?_
  have g4 := h.1; have h := h.2
  refine ab_iald d_K_unite_15 rfl rfl g4 ?_
  refine ab_max d_K_unite_16 v_450 v_451 v_150 v_452 (Nat.succ_le_succ (Nat.zero_le _)) (by decide) hc hs ?_
  refine ab_istore (i := 4) d_K_unite_19 (by decide) (Or.inr rfl) ?_
  refine ab_iload_n (i := 3) d_K_unite_21 rfl rfl ?_
  refine ab_iload (i := 4) d_K_unite_22 rfl ?_
  refine ab_icmp_ne (tgt := 29) d_K_unite_24 (by decide) (fun c5 => ?_) (fun c5 => ?_)
  · have h := h.1 c5
    refine ab_iload (i := 4) d_K_unite_29 rfl ?_
    refine ab_istore (i := 5) d_K_unite_31 (by decide) (Or.inr rfl) ?_
    exact h
  · have h := h.2 c5
    refine ab_iconst (v := 0) d_K_unite_27 rfl ?_
    exact ab_iret (ty := .boolean) d_K_unite_28 rfl rfl h
theorem q_K_unite_1_33 {w : ab_Wd} {d n nc ns : Nat} {I : Nat → Nat → Int32} {L : Nat → Nat → Int64} {res : ab_Re} (v1 : Int32) (v2 : Int32) (v3 : Int32) (v4 : Int32) (v5 : Int32) (hc : nc ≤ res.2.2.2.2.2.1) (hs : ns ≤ res.2.2.2.2.2.2)
    (h : ((10 ≤ v5 → (res = (.inl (some (.int 1)), (I, L, ab_RR, n, nc, ns)))) ∧ (¬ 10 ≤ v5 → ((vp_in v5 10) ∧ ((¬ (I kx_forest_piece v5.toNatClampNeg) = v4 → (ab_E w (d + 1) mt_K_unite 54 [.ref kx_forest_piece, .int v1, .int v2, .int v3, .int v4, .int v5] [] (I, L, ab_RR, n, nc, ns) res)) ∧ ((I kx_forest_piece v5.toNatClampNeg) = v4 → ((vp_in v5 10) ∧ ab_E w (d + 1) mt_K_unite 54 [.ref kx_forest_piece, .int v1, .int v2, .int v3, .int v4, .int v5] [] ((ab_up I kx_forest_piece v5.toNatClampNeg v3), L, ab_RR, n, nc, ns) res))))))) : ab_E w (d + 1) mt_K_unite 33 [.ref kx_forest_piece, .int v1, .int v2, .int v3, .int v4, .int v5] [] (I, L, ab_RR, n, nc, ns) res := by
  refine ab_iload (i := 5) d_K_unite_33 rfl ?_
  refine ab_aload_n (i := 0) d_K_unite_35 rfl rfl ?_
  refine ab_alen (v := 10) d_K_unite_36 (by decide) (by decide) rfl ?_
  refine ab_icmp_ge (tgt := 60) d_K_unite_37 (by decide) (fun c1 => ?_) (fun c1 => ?_)
  · have h := h.1 c1
    refine ab_iconst (v := 1) d_K_unite_60 rfl ?_
    exact ab_iret (ty := .boolean) d_K_unite_61 rfl rfl h
  · have h := h.2 c1
    refine ab_aload_n (i := 0) d_K_unite_40 rfl rfl ?_
    refine ab_iload (i := 5) d_K_unite_41 rfl ?_
    have g2 := h.1; have h := h.2
    refine ab_iald d_K_unite_43 rfl rfl g2 ?_
    refine ab_iload (i := 4) d_K_unite_44 rfl ?_
    refine ab_icmp_ne (tgt := 54) d_K_unite_46 (by decide) (fun c3 => ?_) (fun c3 => ?_)
    · have h := h.1 c3
      exact h
    · have h := h.2 c3
      refine ab_aload_n (i := 0) d_K_unite_49 rfl rfl ?_
      refine ab_iload (i := 5) d_K_unite_50 rfl ?_
      refine ab_iload_n (i := 3) d_K_unite_52 rfl rfl ?_
      have g4 := h.1; have h := h.2
      refine ab_iast d_K_unite_53 rfl rfl g4 ?_
      exact h
theorem q_K_unite_1_54 {w : ab_Wd} {d n nc ns : Nat} {I : Nat → Nat → Int32} {L : Nat → Nat → Int64} {res : ab_Re} (v1 : Int32) (v2 : Int32) (v3 : Int32) (v4 : Int32) (v5 : Int32) (hc : nc ≤ res.2.2.2.2.2.1) (hs : ns ≤ res.2.2.2.2.2.2)
    (h : ab_E w (d + 1) mt_K_unite 33 [.ref kx_forest_piece, .int v1, .int v2, .int v3, .int v4, .int (v5 + 1)] [] (I, L, ab_RR, n, nc, ns) res) : ab_E w (d + 1) mt_K_unite 54 [.ref kx_forest_piece, .int v1, .int v2, .int v3, .int v4, .int v5] [] (I, L, ab_RR, n, nc, ns) res := by
  refine ab_iinc (i := 5) (v := (v5 + 1)) d_K_unite_54 rfl rfl (by decide) (Or.inr rfl) ?_
  refine ab_goto (tgt := 33) d_K_unite_57 (by decide) ?_
  exact h
-- CableKeeper.unite([III)Z over kx_likes_behind
theorem q_K_unite_2_0 {w : ab_Wd} {d n nc ns : Nat} {I : Nat → Nat → Int32} {L : Nat → Nat → Int64} {res : ab_Re} (v1 : Int32) (v2 : Int32) (hc : nc ≤ res.2.2.2.2.2.1) (hs : ns ≤ res.2.2.2.2.2.2)
    (h : (vp_in v1 10) ∧ (vp_in v2 10) ∧ (vp_in v1 10) ∧ (vp_in v2 10) ∧ ((¬ (ab_min32 (I kx_likes_behind v1.toNatClampNeg) (I kx_likes_behind v2.toNatClampNeg)) = (ab_max32 (I kx_likes_behind v1.toNatClampNeg) (I kx_likes_behind v2.toNatClampNeg)) → (ab_E w (d + 1) mt_K_unite 33 [.ref kx_likes_behind, .int v1, .int v2, .int (ab_min32 (I kx_likes_behind v1.toNatClampNeg) (I kx_likes_behind v2.toNatClampNeg)), .int (ab_max32 (I kx_likes_behind v1.toNatClampNeg) (I kx_likes_behind v2.toNatClampNeg)), .int (ab_max32 (I kx_likes_behind v1.toNatClampNeg) (I kx_likes_behind v2.toNatClampNeg))] [] (I, L, ab_RR, n, nc, ns) res)) ∧ ((ab_min32 (I kx_likes_behind v1.toNatClampNeg) (I kx_likes_behind v2.toNatClampNeg)) = (ab_max32 (I kx_likes_behind v1.toNatClampNeg) (I kx_likes_behind v2.toNatClampNeg)) → (res = (.inl (some (.int 0)), (I, L, ab_RR, n, nc, ns)))))) : ab_E w (d + 1) mt_K_unite 0 [.ref kx_likes_behind, .int v1, .int v2, .null, .null, .null] [] (I, L, ab_RR, n, nc, ns) res := by
  refine ab_aload_n (i := 0) d_K_unite_0 rfl rfl ?_
  refine ab_iload_n (i := 1) d_K_unite_1 rfl rfl ?_
  have g1 := h.1; have h := h.2
  refine ab_iald d_K_unite_2 rfl rfl g1 ?_
  refine ab_aload_n (i := 0) d_K_unite_3 rfl rfl ?_
  refine ab_iload_n (i := 2) d_K_unite_4 rfl rfl ?_
  have g2 := h.1; have h := h.2
  refine ab_iald d_K_unite_5 rfl rfl g2 ?_
  refine ab_min d_K_unite_6 v_447 v_448 v_150 v_449 (Nat.succ_le_succ (Nat.zero_le _)) (by decide) hc hs ?_
  refine ab_istore_n (i := 3) d_K_unite_9 rfl (by decide) (Or.inr rfl) ?_
  refine ab_aload_n (i := 0) d_K_unite_10 rfl rfl ?_
  refine ab_iload_n (i := 1) d_K_unite_11 rfl rfl ?_
  have g3 := h.1; have h := h.2
  refine ab_iald d_K_unite_12 rfl rfl g3 ?_
  refine ab_aload_n (i := 0) d_K_unite_13 rfl rfl ?_
  refine ab_iload_n (i := 2) d_K_unite_14 rfl rfl ?_
  have g4 := h.1; have h := h.2
  refine ab_iald d_K_unite_15 rfl rfl g4 ?_
  refine ab_max d_K_unite_16 v_450 v_451 v_150 v_452 (Nat.succ_le_succ (Nat.zero_le _)) (by decide) hc hs ?_
  refine ab_istore (i := 4) d_K_unite_19 (by decide) (Or.inr rfl) ?_
  refine ab_iload_n (i := 3) d_K_unite_21 rfl rfl ?_
  refine ab_iload (i := 4) d_K_unite_22 rfl ?_
  refine ab_icmp_ne (tgt := 29) d_K_unite_24 (by decide) (fun c5 => ?_) (fun c5 => ?_)
  · have h := h.1 c5
    refine ab_iload (i := 4) d_K_unite_29 rfl ?_
    refine ab_istore (i := 5) d_K_unite_31 (by decide) (Or.inr rfl) ?_
    exact h
  · have h := h.2 c5
    refine ab_iconst (v := 0) d_K_unite_27 rfl ?_
    exact ab_iret (ty := .boolean) d_K_unite_28 rfl rfl h
theorem q_K_unite_2_33 {w : ab_Wd} {d n nc ns : Nat} {I : Nat → Nat → Int32} {L : Nat → Nat → Int64} {res : ab_Re} (v1 : Int32) (v2 : Int32) (v3 : Int32) (v4 : Int32) (v5 : Int32) (hc : nc ≤ res.2.2.2.2.2.1) (hs : ns ≤ res.2.2.2.2.2.2)
    (h : ((10 ≤ v5 → (res = (.inl (some (.int 1)), (I, L, ab_RR, n, nc, ns)))) ∧ (¬ 10 ≤ v5 → ((vp_in v5 10) ∧ ((¬ (I kx_likes_behind v5.toNatClampNeg) = v4 → (ab_E w (d + 1) mt_K_unite 54 [.ref kx_likes_behind, .int v1, .int v2, .int v3, .int v4, .int v5] [] (I, L, ab_RR, n, nc, ns) res)) ∧ ((I kx_likes_behind v5.toNatClampNeg) = v4 → ((vp_in v5 10) ∧ ab_E w (d + 1) mt_K_unite 54 [.ref kx_likes_behind, .int v1, .int v2, .int v3, .int v4, .int v5] [] ((ab_up I kx_likes_behind v5.toNatClampNeg v3), L, ab_RR, n, nc, ns) res))))))) : ab_E w (d + 1) mt_K_unite 33 [.ref kx_likes_behind, .int v1, .int v2, .int v3, .int v4, .int v5] [] (I, L, ab_RR, n, nc, ns) res := by
  refine ab_iload (i := 5) d_K_unite_33 rfl ?_
  refine ab_aload_n (i := 0) d_K_unite_35 rfl rfl ?_
  refine ab_alen (v := 10) d_K_unite_36 (by decide) (by decide) rfl ?_
  refine ab_icmp_ge (tgt := 60) d_K_unite_37 (by decide) (fun c1 => ?_) (fun c1 => ?_)
  · have h := h.1 c1
    refine ab_iconst (v := 1) d_K_unite_60 rfl ?_
    exact ab_iret (ty := .boolean) d_K_unite_61 rfl rfl h
  · have h := h.2 c1
    refine ab_aload_n (i := 0) d_K_unite_40 rfl rfl ?_
    refine ab_iload (i := 5) d_K_unite_41 rfl ?_
    have g2 := h.1; have h := h.2
    refine ab_iald d_K_unite_43 rfl rfl g2 ?_
    refine ab_iload (i := 4) d_K_unite_44 rfl ?_
    refine ab_icmp_ne (tgt := 54) d_K_unite_46 (by decide) (fun c3 => ?_) (fun c3 => ?_)
    · have h := h.1 c3
      exact h
    · have h := h.2 c3
      refine ab_aload_n (i := 0) d_K_unite_49 rfl rfl ?_
      refine ab_iload (i := 5) d_K_unite_50 rfl ?_
      refine ab_iload_n (i := 3) d_K_unite_52 rfl rfl ?_
      have g4 := h.1; have h := h.2
      refine ab_iast d_K_unite_53 rfl rfl g4 ?_
      exact h
theorem q_K_unite_2_54 {w : ab_Wd} {d n nc ns : Nat} {I : Nat → Nat → Int32} {L : Nat → Nat → Int64} {res : ab_Re} (v1 : Int32) (v2 : Int32) (v3 : Int32) (v4 : Int32) (v5 : Int32) (hc : nc ≤ res.2.2.2.2.2.1) (hs : ns ≤ res.2.2.2.2.2.2)
    (h : ab_E w (d + 1) mt_K_unite 33 [.ref kx_likes_behind, .int v1, .int v2, .int v3, .int v4, .int (v5 + 1)] [] (I, L, ab_RR, n, nc, ns) res) : ab_E w (d + 1) mt_K_unite 54 [.ref kx_likes_behind, .int v1, .int v2, .int v3, .int v4, .int v5] [] (I, L, ab_RR, n, nc, ns) res := by
  refine ab_iinc (i := 5) (v := (v5 + 1)) d_K_unite_54 rfl rfl (by decide) (Or.inr rfl) ?_
  refine ab_goto (tgt := 33) d_K_unite_57 (by decide) ?_
  exact h
