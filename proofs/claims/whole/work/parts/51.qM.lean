theorem d_M_keep_0 : decode (ab_bc mt_M_keep) 0 = .ok (.aload_n 0, 1) := by decide +kernel
theorem d_M_keep_1 : decode (ab_bc mt_M_keep) 1 = .ok (.getfield 212, 3) := by decide +kernel
theorem d_M_keep_4 : decode (ab_bc mt_M_keep) 4 = .ok (.bipush 40, 2) := by decide +kernel
theorem d_M_keep_6 : decode (ab_bc mt_M_keep) 6 = .ok (.if_icmp .ne 48, 3) := by decide +kernel
theorem d_M_keep_9 : decode (ab_bc mt_M_keep) 9 = .ok (.sipush 399, 3) := by decide +kernel
theorem d_M_keep_12 : decode (ab_bc mt_M_keep) 12 = .ok (.istore_n 1, 1) := by decide +kernel
theorem d_M_keep_13 : decode (ab_bc mt_M_keep) 13 = .ok (.iload_n 1, 1) := by decide +kernel
theorem d_M_keep_14 : decode (ab_bc mt_M_keep) 14 = .ok (.aload_n 0, 1) := by decide +kernel
theorem d_M_keep_15 : decode (ab_bc mt_M_keep) 15 = .ok (.getfield 81, 3) := by decide +kernel
theorem d_M_keep_18 : decode (ab_bc mt_M_keep) 18 = .ok (.arraylength, 1) := by decide +kernel
theorem d_M_keep_19 : decode (ab_bc mt_M_keep) 19 = .ok (.if_icmp .ge 25, 3) := by decide +kernel
theorem d_M_keep_22 : decode (ab_bc mt_M_keep) 22 = .ok (.aload_n 0, 1) := by decide +kernel
theorem d_M_keep_23 : decode (ab_bc mt_M_keep) 23 = .ok (.getfield 81, 3) := by decide +kernel
theorem d_M_keep_26 : decode (ab_bc mt_M_keep) 26 = .ok (.iload_n 1, 1) := by decide +kernel
theorem d_M_keep_27 : decode (ab_bc mt_M_keep) 27 = .ok (.sipush 399, 3) := by decide +kernel
theorem d_M_keep_30 : decode (ab_bc mt_M_keep) 30 = .ok (.isub, 1) := by decide +kernel
theorem d_M_keep_31 : decode (ab_bc mt_M_keep) 31 = .ok (.aload_n 0, 1) := by decide +kernel
theorem d_M_keep_32 : decode (ab_bc mt_M_keep) 32 = .ok (.getfield 81, 3) := by decide +kernel
theorem d_M_keep_35 : decode (ab_bc mt_M_keep) 35 = .ok (.iload_n 1, 1) := by decide +kernel
theorem d_M_keep_36 : decode (ab_bc mt_M_keep) 36 = .ok (.iaload, 1) := by decide +kernel
theorem d_M_keep_37 : decode (ab_bc mt_M_keep) 37 = .ok (.iastore, 1) := by decide +kernel
theorem d_M_keep_38 : decode (ab_bc mt_M_keep) 38 = .ok (.iinc 1 1, 3) := by decide +kernel
theorem d_M_keep_41 : decode (ab_bc mt_M_keep) 41 = .ok (.goto (-28), 3) := by decide +kernel
theorem d_M_keep_44 : decode (ab_bc mt_M_keep) 44 = .ok (.aload_n 0, 1) := by decide +kernel
theorem d_M_keep_45 : decode (ab_bc mt_M_keep) 45 = .ok (.dup, 1) := by decide +kernel
theorem d_M_keep_46 : decode (ab_bc mt_M_keep) 46 = .ok (.getfield 212, 3) := by decide +kernel
theorem d_M_keep_49 : decode (ab_bc mt_M_keep) 49 = .ok (.iconst 1, 1) := by decide +kernel
theorem d_M_keep_50 : decode (ab_bc mt_M_keep) 50 = .ok (.isub, 1) := by decide +kernel
theorem d_M_keep_51 : decode (ab_bc mt_M_keep) 51 = .ok (.putfield 212, 3) := by decide +kernel
theorem d_M_keep_54 : decode (ab_bc mt_M_keep) 54 = .ok (.iconst 0, 1) := by decide +kernel
theorem d_M_keep_55 : decode (ab_bc mt_M_keep) 55 = .ok (.istore_n 1, 1) := by decide +kernel
theorem d_M_keep_56 : decode (ab_bc mt_M_keep) 56 = .ok (.iload_n 1, 1) := by decide +kernel
theorem d_M_keep_57 : decode (ab_bc mt_M_keep) 57 = .ok (.sipush 399, 3) := by decide +kernel
theorem d_M_keep_60 : decode (ab_bc mt_M_keep) 60 = .ok (.if_icmp .ge 30, 3) := by decide +kernel
theorem d_M_keep_63 : decode (ab_bc mt_M_keep) 63 = .ok (.aload_n 0, 1) := by decide +kernel
theorem d_M_keep_64 : decode (ab_bc mt_M_keep) 64 = .ok (.getfield 81, 3) := by decide +kernel
theorem d_M_keep_67 : decode (ab_bc mt_M_keep) 67 = .ok (.sipush 399, 3) := by decide +kernel
theorem d_M_keep_70 : decode (ab_bc mt_M_keep) 70 = .ok (.aload_n 0, 1) := by decide +kernel
theorem d_M_keep_71 : decode (ab_bc mt_M_keep) 71 = .ok (.getfield 212, 3) := by decide +kernel
theorem d_M_keep_74 : decode (ab_bc mt_M_keep) 74 = .ok (.imul, 1) := by decide +kernel
theorem d_M_keep_75 : decode (ab_bc mt_M_keep) 75 = .ok (.iload_n 1, 1) := by decide +kernel
theorem d_M_keep_76 : decode (ab_bc mt_M_keep) 76 = .ok (.iadd, 1) := by decide +kernel
theorem d_M_keep_77 : decode (ab_bc mt_M_keep) 77 = .ok (.aload_n 0, 1) := by decide +kernel
theorem d_M_keep_78 : decode (ab_bc mt_M_keep) 78 = .ok (.getfield 24, 3) := by decide +kernel
theorem d_M_keep_81 : decode (ab_bc mt_M_keep) 81 = .ok (.iload_n 1, 1) := by decide +kernel
theorem d_M_keep_82 : decode (ab_bc mt_M_keep) 82 = .ok (.iaload, 1) := by decide +kernel
theorem d_M_keep_83 : decode (ab_bc mt_M_keep) 83 = .ok (.iastore, 1) := by decide +kernel
theorem d_M_keep_84 : decode (ab_bc mt_M_keep) 84 = .ok (.iinc 1 1, 3) := by decide +kernel
theorem d_M_keep_87 : decode (ab_bc mt_M_keep) 87 = .ok (.goto (-31), 3) := by decide +kernel
theorem d_M_keep_90 : decode (ab_bc mt_M_keep) 90 = .ok (.aload_n 0, 1) := by decide +kernel
theorem d_M_keep_91 : decode (ab_bc mt_M_keep) 91 = .ok (.dup, 1) := by decide +kernel
theorem d_M_keep_92 : decode (ab_bc mt_M_keep) 92 = .ok (.getfield 212, 3) := by decide +kernel
theorem d_M_keep_95 : decode (ab_bc mt_M_keep) 95 = .ok (.iconst 1, 1) := by decide +kernel
theorem d_M_keep_96 : decode (ab_bc mt_M_keep) 96 = .ok (.iadd, 1) := by decide +kernel
theorem d_M_keep_97 : decode (ab_bc mt_M_keep) 97 = .ok (.putfield 212, 3) := by decide +kernel
theorem d_M_keep_100 : decode (ab_bc mt_M_keep) 100 = .ok (.return_, 1) := by decide +kernel
-- CableKeeperModel.keep()V over mx
theorem q_M_keep_0 {w : ab_Wd} {d n nc ns : Nat} {I : Nat → Nat → Int32} {L : Nat → Nat → Int64} {res : ab_Re}  (hc : nc ≤ res.2.2.2.2.2.1) (hs : ns ≤ res.2.2.2.2.2.2)
    (h : ((¬ (I mx 41) = 40 → (ab_E w d mt_M_keep 54 [.ref mx, .null] [] (I, L, ab_RR, n, nc, ns) res)) ∧ ((I mx 41) = 40 → (ab_E w d mt_M_keep 13 [.ref mx, .int 399] [] (I, L, ab_RR, n, nc, ns) res)))) : ab_E w d mt_M_keep 0 [.ref mx, .null] [] (I, L, ab_RR, n, nc, ns) res := by
  refine ab_aload_n (i := 0) d_M_keep_0 rfl rfl ?_
  refine ab_getI (ci := 11) (k := 41) d_M_keep_1 v_1409 rfl (by decide) (by decide) rfl ?_
  refine ab_bipush (v := 40) d_M_keep_4 rfl ?_
  refine ab_icmp_ne (tgt := 54) d_M_keep_6 (by decide) (fun c1 => ?_) (fun c1 => ?_)
  · have h := h.1 c1
    exact h
  · have h := h.2 c1
    refine ab_sipush (v := 399) d_M_keep_9 rfl ?_
    refine ab_istore_n (i := 1) d_M_keep_12 rfl (by decide) (Or.inr rfl) ?_
    exact h
theorem q_M_keep_13 {w : ab_Wd} {d n nc ns : Nat} {I : Nat → Nat → Int32} {L : Nat → Nat → Int64} {res : ab_Re} (v1 : Int32) (hc : nc ≤ res.2.2.2.2.2.1) (hs : ns ≤ res.2.2.2.2.2.2)
    (h : ((15960 ≤ v1 → (ab_E w d mt_M_keep 54 [.ref mx, .null] [] ((ab_up I mx 41 ((I mx 41) - 1)), L, ab_RR, n, nc, ns) res)) ∧ (¬ 15960 ≤ v1 → ((vp_in v1 15960) ∧ (vp_in (v1 - 399) 15960) ∧ ab_E w d mt_M_keep 13 [.ref mx, .int (v1 + 1)] [] ((ab_up I mx_past (v1 - 399).toNatClampNeg (I mx_past v1.toNatClampNeg)), L, ab_RR, n, nc, ns) res)))) : ab_E w d mt_M_keep 13 [.ref mx, .int v1] [] (I, L, ab_RR, n, nc, ns) res := by
  refine ab_iload_n (i := 1) d_M_keep_13 rfl rfl ?_
  refine ab_aload_n (i := 0) d_M_keep_14 rfl rfl ?_
  refine ab_getR (ci := 11) (k := 42) (j := mx_past) d_M_keep_15 v_1410 rfl (by decide) (by decide) rfl r_mx_42 ?_
  refine ab_alen (v := 15960) d_M_keep_18 (by decide) (by decide) rfl ?_
  refine ab_icmp_ge (tgt := 44) d_M_keep_19 (by decide) (fun c1 => ?_) (fun c1 => ?_)
  · have h := h.1 c1
    refine ab_aload_n (i := 0) d_M_keep_44 rfl rfl ?_
    refine ab_dupr d_M_keep_45 ?_
    refine ab_getI (ci := 11) (k := 41) d_M_keep_46 v_1409 rfl (by decide) (by decide) rfl ?_
    refine ab_iconst (v := 1) d_M_keep_49 rfl ?_
    refine ab_isub d_M_keep_50 ?_
    refine ab_putI (ci := 11) (k := 41) d_M_keep_51 v_1409 rfl (by decide) (by decide) rfl (Or.inl rfl) rfl rfl ?_
    refine ab_drop 1 ?_
    exact h
  · have h := h.2 c1
    refine ab_aload_n (i := 0) d_M_keep_22 rfl rfl ?_
    refine ab_getR (ci := 11) (k := 42) (j := mx_past) d_M_keep_23 v_1410 rfl (by decide) (by decide) rfl r_mx_42 ?_
    refine ab_iload_n (i := 1) d_M_keep_26 rfl rfl ?_
    refine ab_sipush (v := 399) d_M_keep_27 rfl ?_
    refine ab_isub d_M_keep_30 ?_
    refine ab_aload_n (i := 0) d_M_keep_31 rfl rfl ?_
    refine ab_getR (ci := 11) (k := 42) (j := mx_past) d_M_keep_32 v_1410 rfl (by decide) (by decide) rfl r_mx_42 ?_
    refine ab_iload_n (i := 1) d_M_keep_35 rfl rfl ?_
    have g2 := h.1; have h := h.2
    refine ab_iald d_M_keep_36 rfl rfl g2 ?_
    have g3 := h.1; have h := h.2
    refine ab_iast d_M_keep_37 rfl rfl g3 ?_
    refine ab_iinc (i := 1) (v := (v1 + 1)) d_M_keep_38 rfl rfl (by decide) (Or.inr rfl) ?_
    refine ab_goto (tgt := 13) d_M_keep_41 (by decide) ?_
    exact h
theorem q_M_keep_54 {w : ab_Wd} {d n nc ns : Nat} {I : Nat → Nat → Int32} {L : Nat → Nat → Int64} {res : ab_Re}  (hc : nc ≤ res.2.2.2.2.2.1) (hs : ns ≤ res.2.2.2.2.2.2)
    (h : ab_E w d mt_M_keep 56 [.ref mx, .int 0] [] (I, L, ab_RR, n, nc, ns) res) : ab_E w d mt_M_keep 54 [.ref mx, .null] [] (I, L, ab_RR, n, nc, ns) res := by
  refine ab_iconst (v := 0) d_M_keep_54 rfl ?_
  refine ab_istore_n (i := 1) d_M_keep_55 rfl (by decide) (Or.inr rfl) ?_
  exact h
theorem q_M_keep_56 {w : ab_Wd} {d n nc ns : Nat} {I : Nat → Nat → Int32} {L : Nat → Nat → Int64} {res : ab_Re} (v1 : Int32) (hc : nc ≤ res.2.2.2.2.2.1) (hs : ns ≤ res.2.2.2.2.2.2)
    (h : ((399 ≤ v1 → (res = (.inl none, ((ab_up I mx 41 ((I mx 41) + 1)), L, ab_RR, n, nc, ns)))) ∧ (¬ 399 ≤ v1 → ((vp_in v1 399) ∧ (vp_in ((399 * (I mx 41)) + v1) 15960) ∧ ab_E w d mt_M_keep 56 [.ref mx, .int (v1 + 1)] [] ((ab_up I mx_past ((399 * (I mx 41)) + v1).toNatClampNeg (I mx_now v1.toNatClampNeg)), L, ab_RR, n, nc, ns) res)))) : ab_E w d mt_M_keep 56 [.ref mx, .int v1] [] (I, L, ab_RR, n, nc, ns) res := by
  refine ab_iload_n (i := 1) d_M_keep_56 rfl rfl ?_
  refine ab_sipush (v := 399) d_M_keep_57 rfl ?_
  refine ab_icmp_ge (tgt := 90) d_M_keep_60 (by decide) (fun c1 => ?_) (fun c1 => ?_)
  · have h := h.1 c1
    refine ab_aload_n (i := 0) d_M_keep_90 rfl rfl ?_
    refine ab_dupr d_M_keep_91 ?_
    refine ab_getI (ci := 11) (k := 41) d_M_keep_92 v_1409 rfl (by decide) (by decide) rfl ?_
    refine ab_iconst (v := 1) d_M_keep_95 rfl ?_
    refine ab_iadd d_M_keep_96 ?_
    refine ab_putI (ci := 11) (k := 41) d_M_keep_97 v_1409 rfl (by decide) (by decide) rfl (Or.inl rfl) rfl rfl ?_
    exact ab_vret d_M_keep_100 rfl h
  · have h := h.2 c1
    refine ab_aload_n (i := 0) d_M_keep_63 rfl rfl ?_
    refine ab_getR (ci := 11) (k := 42) (j := mx_past) d_M_keep_64 v_1410 rfl (by decide) (by decide) rfl r_mx_42 ?_
    refine ab_sipush (v := 399) d_M_keep_67 rfl ?_
    refine ab_aload_n (i := 0) d_M_keep_70 rfl rfl ?_
    refine ab_getI (ci := 11) (k := 41) d_M_keep_71 v_1409 rfl (by decide) (by decide) rfl ?_
    refine ab_imul d_M_keep_74 ?_
    refine ab_iload_n (i := 1) d_M_keep_75 rfl rfl ?_
    refine ab_iadd d_M_keep_76 ?_
    refine ab_aload_n (i := 0) d_M_keep_77 rfl rfl ?_
    refine ab_getR (ci := 11) (k := 4) (j := mx_now) d_M_keep_78 v_1372 rfl (by decide) (by decide) rfl r_mx_4 ?_
    refine ab_iload_n (i := 1) d_M_keep_81 rfl rfl ?_
    have g2 := h.1; have h := h.2
    refine ab_iald d_M_keep_82 rfl rfl g2 ?_
    have g3 := h.1; have h := h.2
    refine ab_iast d_M_keep_83 rfl rfl g3 ?_
    refine ab_iinc (i := 1) (v := (v1 + 1)) d_M_keep_84 rfl rfl (by decide) (Or.inr rfl) ?_
    refine ab_goto (tgt := 56) d_M_keep_87 (by decide) ?_
    exact h
theorem d_M_price_0 : decode (ab_bc mt_M_price) 0 = .ok (.aload_n 0, 1) := by decide +kernel
theorem d_M_price_1 : decode (ab_bc mt_M_price) 1 = .ok (.iconst 0, 1) := by decide +kernel
theorem d_M_price_2 : decode (ab_bc mt_M_price) 2 = .ok (.putfield 108, 3) := by decide +kernel
theorem d_M_price_5 : decode (ab_bc mt_M_price) 5 = .ok (.aload_n 0, 1) := by decide +kernel
theorem d_M_price_6 : decode (ab_bc mt_M_price) 6 = .ok (.iload_n 1, 1) := by decide +kernel
theorem d_M_price_7 : decode (ab_bc mt_M_price) 7 = .ok (.invokevirtual 348, 3) := by decide +kernel
theorem d_M_price_10 : decode (ab_bc mt_M_price) 10 = .ok (.ifCond .eq 23, 3) := by decide +kernel
theorem d_M_price_13 : decode (ab_bc mt_M_price) 13 = .ok (.iload_n 2, 1) := by decide +kernel
theorem d_M_price_14 : decode (ab_bc mt_M_price) 14 = .ok (.iconst 1, 1) := by decide +kernel
theorem d_M_price_15 : decode (ab_bc mt_M_price) 15 = .ok (.sipush 999, 3) := by decide +kernel
theorem d_M_price_18 : decode (ab_bc mt_M_price) 18 = .ok (.invokestatic 344, 3) := by decide +kernel
theorem d_M_price_21 : decode (ab_bc mt_M_price) 21 = .ok (.ifCond .eq 12, 3) := by decide +kernel
theorem d_M_price_24 : decode (ab_bc mt_M_price) 24 = .ok (.aload_n 0, 1) := by decide +kernel
theorem d_M_price_25 : decode (ab_bc mt_M_price) 25 = .ok (.iload_n 1, 1) := by decide +kernel
theorem d_M_price_26 : decode (ab_bc mt_M_price) 26 = .ok (.invokevirtual 222, 3) := by decide +kernel
theorem d_M_price_29 : decode (ab_bc mt_M_price) 29 = .ok (.iload_n 2, 1) := by decide +kernel
theorem d_M_price_30 : decode (ab_bc mt_M_price) 30 = .ok (.if_icmp .ne 9, 3) := by decide +kernel
theorem d_M_price_33 : decode (ab_bc mt_M_price) 33 = .ok (.aload_n 0, 1) := by decide +kernel
theorem d_M_price_34 : decode (ab_bc mt_M_price) 34 = .ok (.iconst 1, 1) := by decide +kernel
theorem d_M_price_35 : decode (ab_bc mt_M_price) 35 = .ok (.invokevirtual 434, 3) := by decide +kernel
theorem d_M_price_38 : decode (ab_bc mt_M_price) 38 = .ok (.ireturn, 1) := by decide +kernel
theorem d_M_price_39 : decode (ab_bc mt_M_price) 39 = .ok (.aload_n 0, 1) := by decide +kernel
theorem d_M_price_40 : decode (ab_bc mt_M_price) 40 = .ok (.invokevirtual 437, 3) := by decide +kernel
theorem d_M_price_43 : decode (ab_bc mt_M_price) 43 = .ok (.aload_n 0, 1) := by decide +kernel
theorem d_M_price_44 : decode (ab_bc mt_M_price) 44 = .ok (.iload_n 1, 1) := by decide +kernel
theorem d_M_price_45 : decode (ab_bc mt_M_price) 45 = .ok (.invokevirtual 222, 3) := by decide +kernel
theorem d_M_price_48 : decode (ab_bc mt_M_price) 48 = .ok (.istore_n 3, 1) := by decide +kernel
theorem d_M_price_49 : decode (ab_bc mt_M_price) 49 = .ok (.aload_n 0, 1) := by decide +kernel
theorem d_M_price_50 : decode (ab_bc mt_M_price) 50 = .ok (.iload_n 1, 1) := by decide +kernel
theorem d_M_price_51 : decode (ab_bc mt_M_price) 51 = .ok (.iload_n 2, 1) := by decide +kernel
theorem d_M_price_52 : decode (ab_bc mt_M_price) 52 = .ok (.invokevirtual 440, 3) := by decide +kernel
theorem d_M_price_55 : decode (ab_bc mt_M_price) 55 = .ok (.iload_n 3, 1) := by decide +kernel
theorem d_M_price_56 : decode (ab_bc mt_M_price) 56 = .ok (.ireturn, 1) := by decide +kernel
-- CableKeeperModel.price(II)I over mx
theorem q_M_price_0 {w : ab_Wd} {d n nc ns : Nat} {I : Nat → Nat → Int32} {L : Nat → Nat → Int64} {res : ab_Re} (v1 : Int32) (v2 : Int32) (hc : nc ≤ res.2.2.2.2.2.1) (hs : ns ≤ res.2.2.2.2.2.2)
    (h : ∃ (r1 : Int32), ab_C w d mt_M_isCable [.ref mx, .int v1] ((ab_up I mx 1 0), L, ab_RR, n, nc, ns) (.inl (some (.int r1)), ((ab_up I mx 1 0), L, ab_RR, n, nc, ns)) ∧ ((r1 = 0 → (ab_E w (d + 1) mt_M_price 33 [.ref mx, .int v1, .int v2, .null] [] ((ab_up I mx 1 0), L, ab_RR, n, nc, ns) res)) ∧ (¬ r1 = 0 → (∃ (r3 : Int32), ab_C w d mt_M_isIn [.int v2, .int 1, .int 999] ((ab_up I mx 1 0), L, ab_RR, n, nc, ns) (.inl (some (.int r3)), ((ab_up I mx 1 0), L, ab_RR, n, nc, ns)) ∧ ((r3 = 0 → (ab_E w (d + 1) mt_M_price 33 [.ref mx, .int v1, .int v2, .null] [] ((ab_up I mx 1 0), L, ab_RR, n, nc, ns) res)) ∧ (¬ r3 = 0 → (∃ (r5 : Int32), ab_C w d mt_M_priceOf [.ref mx, .int v1] ((ab_up I mx 1 0), L, ab_RR, n, nc, ns) (.inl (some (.int r5)), ((ab_up I mx 1 0), L, ab_RR, n, nc, ns)) ∧ ((¬ r5 = v2 → (∃ (I8 : Nat → Nat → Int32), ab_C w d mt_M_keep [.ref mx] ((ab_up I mx 1 0), L, ab_RR, n, nc, ns) (.inl none, (I8, L, ab_RR, n, nc, ns)) ∧ ∃ (r9 : Int32), ab_C w d mt_M_priceOf [.ref mx, .int v1] (I8, L, ab_RR, n, nc, ns) (.inl (some (.int r9)), (I8, L, ab_RR, n, nc, ns)) ∧ ∃ (I11 : Nat → Nat → Int32), ab_C w d mt_M_pricesNow [.ref mx, .int v1, .int v2] (I8, L, ab_RR, n, nc, ns) (.inl none, (I11, L, ab_RR, n, nc, ns)) ∧ res = (.inl (some (.int r9)), (I11, L, ab_RR, n, nc, ns)))) ∧ (r5 = v2 → (ab_E w (d + 1) mt_M_price 33 [.ref mx, .int v1, .int v2, .null] [] ((ab_up I mx 1 0), L, ab_RR, n, nc, ns) res)))))))))) : ab_E w (d + 1) mt_M_price 0 [.ref mx, .int v1, .int v2, .null] [] (I, L, ab_RR, n, nc, ns) res := by
  refine ab_aload_n (i := 0) d_M_price_0 rfl rfl ?_
  refine ab_iconst (v := 0) d_M_price_1 rfl ?_
  refine ab_putI (ci := 11) (k := 1) d_M_price_2 v_1369 rfl (by decide) (by decide) rfl (Or.inl rfl) rfl rfl ?_
  refine ab_aload_n (i := 0) d_M_price_5 rfl rfl ?_
  refine ab_iload_n (i := 1) d_M_price_6 rfl rfl ?_
  obtain ⟨r1, hC, h⟩ := h
  refine ab_callV (me2 := mt_M_isCable) (b := mx) (as := [.int v1]) (st := []) (rv := (some (.int r1))) (M2 := ((ab_up I mx 1 0), L, ab_RR, n, nc, ns)) d_M_price_7 ce_M_isCable v_1748 v_1750 v_105 (by decide) rfl (by decide) hC (Nat.le_refl _) (Nat.le_refl _) hc hs (fun j h9 => by cases h9) (fun _ _ => rfl) ?_
  show ab_E w (d + 1) mt_M_price 10 [.ref mx, .int v1, .int v2, .null] [.int r1] ((ab_up I mx 1 0), L, ab_RR, n, nc, ns) res
  refine ab_if_eq (tgt := 33) d_M_price_10 (by decide) (fun c2 => ?_) (fun c2 => ?_)
  · have h := h.1 c2
    exact h
  · have h := h.2 c2
    refine ab_iload_n (i := 2) d_M_price_13 rfl rfl ?_
    refine ab_iconst (v := 1) d_M_price_14 rfl ?_
    refine ab_sipush (v := 999) d_M_price_15 rfl ?_
    obtain ⟨r3, hC, h⟩ := h
    refine ab_callS (me2 := mt_M_isIn) (as := [.int v2, .int 1, .int 999]) (st := []) (rv := (some (.int r3))) (M2 := ((ab_up I mx 1 0), L, ab_RR, n, nc, ns)) d_M_price_18 ce_M_isIn ⟨v_1753, Or.inl v_1752⟩ (by decide) hC (Nat.le_refl _) (Nat.le_refl _) hc hs (fun j h9 => by cases h9) (fun _ _ => rfl) ?_
    show ab_E w (d + 1) mt_M_price 21 [.ref mx, .int v1, .int v2, .null] [.int r3] ((ab_up I mx 1 0), L, ab_RR, n, nc, ns) res
    refine ab_if_eq (tgt := 33) d_M_price_21 (by decide) (fun c4 => ?_) (fun c4 => ?_)
    · have h := h.1 c4
      exact h
    · have h := h.2 c4
      refine ab_aload_n (i := 0) d_M_price_24 rfl rfl ?_
      refine ab_iload_n (i := 1) d_M_price_25 rfl rfl ?_
      obtain ⟨r5, hC, h⟩ := h
      refine ab_callV (me2 := mt_M_priceOf) (b := mx) (as := [.int v1]) (st := []) (rv := (some (.int r5))) (M2 := ((ab_up I mx 1 0), L, ab_RR, n, nc, ns)) d_M_price_26 ce_M_priceOf v_1654 v_1656 v_83 (by decide) rfl (by decide) hC (Nat.le_refl _) (Nat.le_refl _) hc hs (fun j h9 => by cases h9) (fun _ _ => rfl) ?_
      show ab_E w (d + 1) mt_M_price 29 [.ref mx, .int v1, .int v2, .null] [.int r5] ((ab_up I mx 1 0), L, ab_RR, n, nc, ns) res
      refine ab_iload_n (i := 2) d_M_price_29 rfl rfl ?_
      refine ab_icmp_ne (tgt := 39) d_M_price_30 (by decide) (fun c6 => ?_) (fun c6 => ?_)
      · have h := h.1 c6
        refine ab_aload_n (i := 0) d_M_price_39 rfl rfl ?_
        obtain ⟨I8, hC, h⟩ := h
        refine ab_callV (me2 := mt_M_keep) (b := mx) (as := []) (st := []) (rv := none) (M2 := (I8, L, ab_RR, n, nc, ns)) d_M_price_40 ce_M_keep v_1904 v_1906 v_129 (by decide) rfl (by decide) hC (Nat.le_refl _) (Nat.le_refl _) hc hs (fun j h9 => by cases h9) (fun _ _ => rfl) ?_
        show ab_E w (d + 1) mt_M_price 43 [.ref mx, .int v1, .int v2, .null] [] (I8, L, ab_RR, n, nc, ns) res
        refine ab_aload_n (i := 0) d_M_price_43 rfl rfl ?_
        refine ab_iload_n (i := 1) d_M_price_44 rfl rfl ?_
        obtain ⟨r9, hC, h⟩ := h
        refine ab_callV (me2 := mt_M_priceOf) (b := mx) (as := [.int v1]) (st := []) (rv := (some (.int r9))) (M2 := (I8, L, ab_RR, n, nc, ns)) d_M_price_45 ce_M_priceOf v_1654 v_1656 v_83 (by decide) rfl (by decide) hC (Nat.le_refl _) (Nat.le_refl _) hc hs (fun j h9 => by cases h9) (fun _ _ => rfl) ?_
        show ab_E w (d + 1) mt_M_price 48 [.ref mx, .int v1, .int v2, .null] [.int r9] (I8, L, ab_RR, n, nc, ns) res
        refine ab_istore_n (i := 3) d_M_price_48 rfl (by decide) (Or.inr rfl) ?_
        refine ab_aload_n (i := 0) d_M_price_49 rfl rfl ?_
        refine ab_iload_n (i := 1) d_M_price_50 rfl rfl ?_
        refine ab_iload_n (i := 2) d_M_price_51 rfl rfl ?_
        obtain ⟨I11, hC, h⟩ := h
        refine ab_callV (me2 := mt_M_pricesNow) (b := mx) (as := [.int v1, .int v2]) (st := []) (rv := none) (M2 := (I11, L, ab_RR, n, nc, ns)) d_M_price_52 ce_M_pricesNow v_1908 v_1910 v_130 (by decide) rfl (by decide) hC (Nat.le_refl _) (Nat.le_refl _) hc hs (fun j h9 => by cases h9) (fun _ _ => rfl) ?_
        show ab_E w (d + 1) mt_M_price 55 [.ref mx, .int v1, .int v2, .int r9] [] (I11, L, ab_RR, n, nc, ns) res
        refine ab_iload_n (i := 3) d_M_price_55 rfl rfl ?_
        exact ab_iret (ty := .int) d_M_price_56 rfl rfl h
      · have h := h.2 c6
        exact h
theorem q_M_price_33 {w : ab_Wd} {d n nc ns : Nat} {I : Nat → Nat → Int32} {L : Nat → Nat → Int64} {res : ab_Re} (v1 : Int32) (v2 : Int32) (hc : nc ≤ res.2.2.2.2.2.1) (hs : ns ≤ res.2.2.2.2.2.2)
    (h : ∃ (r1 : Int32) (I2 : Nat → Nat → Int32), ab_C w d mt_M_refuse [.ref mx, .int 1] (I, L, ab_RR, n, nc, ns) (.inl (some (.int r1)), (I2, L, ab_RR, n, nc, ns)) ∧ res = (.inl (some (.int r1)), (I2, L, ab_RR, n, nc, ns))) : ab_E w (d + 1) mt_M_price 33 [.ref mx, .int v1, .int v2, .null] [] (I, L, ab_RR, n, nc, ns) res := by
  refine ab_aload_n (i := 0) d_M_price_33 rfl rfl ?_
  refine ab_iconst (v := 1) d_M_price_34 rfl ?_
  obtain ⟨r1, I2, hC, h⟩ := h
  refine ab_callV (me2 := mt_M_refuse) (b := mx) (as := [.int 1]) (st := []) (rv := (some (.int r1))) (M2 := (I2, L, ab_RR, n, nc, ns)) d_M_price_35 ce_M_refuse v_1900 v_1902 v_128 (by decide) rfl (by decide) hC (Nat.le_refl _) (Nat.le_refl _) hc hs (fun j h9 => by cases h9) (fun _ _ => rfl) ?_
  show ab_E w (d + 1) mt_M_price 38 [.ref mx, .int v1, .int v2, .null] [.int r1] (I2, L, ab_RR, n, nc, ns) res
  exact ab_iret (ty := .int) d_M_price_38 rfl rfl h
theorem d_M_hasCables_0 : decode (ab_bc mt_M_hasCables) 0 = .ok (.iconst 0, 1) := by decide +kernel
theorem d_M_hasCables_1 : decode (ab_bc mt_M_hasCables) 1 = .ok (.istore_n 2, 1) := by decide +kernel
theorem d_M_hasCables_2 : decode (ab_bc mt_M_hasCables) 2 = .ok (.iconst 0, 1) := by decide +kernel
theorem d_M_hasCables_3 : decode (ab_bc mt_M_hasCables) 3 = .ok (.istore_n 3, 1) := by decide +kernel
theorem d_M_hasCables_4 : decode (ab_bc mt_M_hasCables) 4 = .ok (.iload_n 3, 1) := by decide +kernel
theorem d_M_hasCables_5 : decode (ab_bc mt_M_hasCables) 5 = .ok (.aload_n 0, 1) := by decide +kernel
theorem d_M_hasCables_6 : decode (ab_bc mt_M_hasCables) 6 = .ok (.invokevirtual 234, 3) := by decide +kernel
theorem d_M_hasCables_9 : decode (ab_bc mt_M_hasCables) 9 = .ok (.if_icmp .ge 32, 3) := by decide +kernel
theorem d_M_hasCables_12 : decode (ab_bc mt_M_hasCables) 12 = .ok (.iload_n 2, 1) := by decide +kernel
theorem d_M_hasCables_13 : decode (ab_bc mt_M_hasCables) 13 = .ok (.ifCond .ne 16, 3) := by decide +kernel
theorem d_M_hasCables_16 : decode (ab_bc mt_M_hasCables) 16 = .ok (.aload_n 0, 1) := by decide +kernel
theorem d_M_hasCables_17 : decode (ab_bc mt_M_hasCables) 17 = .ok (.getfield 24, 3) := by decide +kernel
theorem d_M_hasCables_20 : decode (ab_bc mt_M_hasCables) 20 = .ok (.bipush 75, 2) := by decide +kernel
theorem d_M_hasCables_22 : decode (ab_bc mt_M_hasCables) 22 = .ok (.iload_n 3, 1) := by decide +kernel
theorem d_M_hasCables_23 : decode (ab_bc mt_M_hasCables) 23 = .ok (.iadd, 1) := by decide +kernel
theorem d_M_hasCables_24 : decode (ab_bc mt_M_hasCables) 24 = .ok (.iaload, 1) := by decide +kernel
theorem d_M_hasCables_25 : decode (ab_bc mt_M_hasCables) 25 = .ok (.iload_n 1, 1) := by decide +kernel
theorem d_M_hasCables_26 : decode (ab_bc mt_M_hasCables) 26 = .ok (.if_icmp .ne 7, 3) := by decide +kernel
theorem d_M_hasCables_29 : decode (ab_bc mt_M_hasCables) 29 = .ok (.iconst 1, 1) := by decide +kernel
theorem d_M_hasCables_30 : decode (ab_bc mt_M_hasCables) 30 = .ok (.goto 4, 3) := by decide +kernel
theorem d_M_hasCables_33 : decode (ab_bc mt_M_hasCables) 33 = .ok (.iconst 0, 1) := by decide +kernel
theorem d_M_hasCables_34 : decode (ab_bc mt_M_hasCables) 34 = .ok (.istore_n 2, 1) := by decide +kernel
theorem d_M_hasCables_35 : decode (ab_bc mt_M_hasCables) 35 = .ok (.iinc 3 1, 3) := by decide +kernel
theorem d_M_hasCables_38 : decode (ab_bc mt_M_hasCables) 38 = .ok (.goto (-34), 3) := by decide +kernel
theorem d_M_hasCables_41 : decode (ab_bc mt_M_hasCables) 41 = .ok (.iload_n 2, 1) := by decide +kernel
theorem d_M_hasCables_42 : decode (ab_bc mt_M_hasCables) 42 = .ok (.ireturn, 1) := by decide +kernel
-- CableKeeperModel.hasCables(I)Z over mx
theorem q_M_hasCables_0 {w : ab_Wd} {d n nc ns : Nat} {I : Nat → Nat → Int32} {L : Nat → Nat → Int64} {res : ab_Re} (v1 : Int32) (hc : nc ≤ res.2.2.2.2.2.1) (hs : ns ≤ res.2.2.2.2.2.2)
    (h : ab_E w (d + 1) mt_M_hasCables 4 [.ref mx, .int v1, .int 0, .int 0] [] (I, L, ab_RR, n, nc, ns) res) : ab_E w (d + 1) mt_M_hasCables 0 [.ref mx, .int v1, .null, .null] [] (I, L, ab_RR, n, nc, ns) res := by
  refine ab_iconst (v := 0) d_M_hasCables_0 rfl ?_
  refine ab_istore_n (i := 2) d_M_hasCables_1 rfl (by decide) (Or.inr rfl) ?_
  refine ab_iconst (v := 0) d_M_hasCables_2 rfl ?_
  refine ab_istore_n (i := 3) d_M_hasCables_3 rfl (by decide) (Or.inr rfl) ?_
  exact h
theorem q_M_hasCables_4 {w : ab_Wd} {d n nc ns : Nat} {I : Nat → Nat → Int32} {L : Nat → Nat → Int64} {res : ab_Re} (v1 : Int32) (v2 : Int32) (v3 : Int32) (hc : nc ≤ res.2.2.2.2.2.1) (hs : ns ≤ res.2.2.2.2.2.2)
    (h : ∃ (r1 : Int32), ab_C w d mt_M_many [.ref mx] (I, L, ab_RR, n, nc, ns) (.inl (some (.int r1)), (I, L, ab_RR, n, nc, ns)) ∧ ((r1 ≤ v3 → ((narrow .boolean (.int v2) = .int v2) ∧ res = (.inl (some (.int v2)), (I, L, ab_RR, n, nc, ns)))) ∧ (¬ r1 ≤ v3 → ((¬ v2 = 0 → (ab_E w (d + 1) mt_M_hasCables 29 [.ref mx, .int v1, .int v2, .int v3] [] (I, L, ab_RR, n, nc, ns) res)) ∧ (v2 = 0 → ((vp_in (75 + v3) 399) ∧ ((¬ (I mx_now (75 + v3).toNatClampNeg) = v1 → (ab_E w (d + 1) mt_M_hasCables 34 [.ref mx, .int v1, .int v2, .int v3] [.int 0] (I, L, ab_RR, n, nc, ns) res)) ∧ ((I mx_now (75 + v3).toNatClampNeg) = v1 → (ab_E w (d + 1) mt_M_hasCables 29 [.ref mx, .int v1, .int v2, .int v3] [] (I, L, ab_RR, n, nc, ns) res))))))))) : ab_E w (d + 1) mt_M_hasCables 4 [.ref mx, .int v1, .int v2, .int v3] [] (I, L, ab_RR, n, nc, ns) res := by
  refine ab_iload_n (i := 3) d_M_hasCables_4 rfl rfl ?_
  refine ab_aload_n (i := 0) d_M_hasCables_5 rfl rfl ?_
  obtain ⟨r1, hC, h⟩ := h
  refine ab_callV (me2 := mt_M_many) (b := mx) (as := []) (st := [.int v3]) (rv := (some (.int r1))) (M2 := (I, L, ab_RR, n, nc, ns)) d_M_hasCables_6 ce_M_many v_1635 v_1637 v_79 (by decide) rfl (by decide) hC (Nat.le_refl _) (Nat.le_refl _) hc hs (fun j h9 => by cases h9) (fun _ _ => rfl) ?_
  show ab_E w (d + 1) mt_M_hasCables 9 [.ref mx, .int v1, .int v2, .int v3] [.int r1, .int v3] (I, L, ab_RR, n, nc, ns) res
  refine ab_icmp_ge (tgt := 41) d_M_hasCables_9 (by decide) (fun c2 => ?_) (fun c2 => ?_)
  · have h := h.1 c2
    refine ab_iload_n (i := 2) d_M_hasCables_41 rfl rfl ?_
    have g := h.1; have h := h.2
    exact ab_iret (ty := .boolean) d_M_hasCables_42 rfl g h
  · have h := h.2 c2
    refine ab_iload_n (i := 2) d_M_hasCables_12 rfl rfl ?_
    refine ab_if_ne (tgt := 29) d_M_hasCables_13 (by decide) (fun c3 => ?_) (fun c3 => ?_)
    · have h := h.1 c3
      exact h
    · have h := h.2 c3
      refine ab_aload_n (i := 0) d_M_hasCables_16 rfl rfl ?_
      refine ab_getR (ci := 11) (k := 4) (j := mx_now) d_M_hasCables_17 v_1372 rfl (by decide) (by decide) rfl r_mx_4 ?_
      refine ab_bipush (v := 75) d_M_hasCables_20 rfl ?_
      refine ab_iload_n (i := 3) d_M_hasCables_22 rfl rfl ?_
      refine ab_iadd d_M_hasCables_23 ?_
      have g4 := h.1; have h := h.2
      refine ab_iald d_M_hasCables_24 rfl rfl g4 ?_
      refine ab_iload_n (i := 1) d_M_hasCables_25 rfl rfl ?_
      refine ab_icmp_ne (tgt := 33) d_M_hasCables_26 (by decide) (fun c5 => ?_) (fun c5 => ?_)
      · have h := h.1 c5
        refine ab_iconst (v := 0) d_M_hasCables_33 rfl ?_
        exact h
      · have h := h.2 c5
        exact h
theorem q_M_hasCables_29 {w : ab_Wd} {d n nc ns : Nat} {I : Nat → Nat → Int32} {L : Nat → Nat → Int64} {res : ab_Re} (v1 : Int32) (v2 : Int32) (v3 : Int32) (hc : nc ≤ res.2.2.2.2.2.1) (hs : ns ≤ res.2.2.2.2.2.2)
    (h : ab_E w (d + 1) mt_M_hasCables 34 [.ref mx, .int v1, .int v2, .int v3] [.int 1] (I, L, ab_RR, n, nc, ns) res) : ab_E w (d + 1) mt_M_hasCables 29 [.ref mx, .int v1, .int v2, .int v3] [] (I, L, ab_RR, n, nc, ns) res := by
  refine ab_iconst (v := 1) d_M_hasCables_29 rfl ?_
  refine ab_goto (tgt := 34) d_M_hasCables_30 (by decide) ?_
  exact h
theorem q_M_hasCables_34 {w : ab_Wd} {d n nc ns : Nat} {I : Nat → Nat → Int32} {L : Nat → Nat → Int64} {res : ab_Re} (v1 : Int32) (v2 : Int32) (v3 : Int32) (s0 : Int32) (hc : nc ≤ res.2.2.2.2.2.1) (hs : ns ≤ res.2.2.2.2.2.2)
    (h : ab_E w (d + 1) mt_M_hasCables 4 [.ref mx, .int v1, .int s0, .int (v3 + 1)] [] (I, L, ab_RR, n, nc, ns) res) : ab_E w (d + 1) mt_M_hasCables 34 [.ref mx, .int v1, .int v2, .int v3] [.int s0] (I, L, ab_RR, n, nc, ns) res := by
  refine ab_istore_n (i := 2) d_M_hasCables_34 rfl (by decide) (Or.inr rfl) ?_
  refine ab_iinc (i := 3) (v := (v3 + 1)) d_M_hasCables_35 rfl rfl (by decide) (Or.inr rfl) ?_
  refine ab_goto (tgt := 4) d_M_hasCables_38 (by decide) ?_
  exact h
theorem d_M_all_0 : decode (ab_bc mt_M_all) 0 = .ok (.aload_n 0, 1) := by decide +kernel
theorem d_M_all_1 : decode (ab_bc mt_M_all) 1 = .ok (.iconst 0, 1) := by decide +kernel
theorem d_M_all_2 : decode (ab_bc mt_M_all) 2 = .ok (.putfield 108, 3) := by decide +kernel
theorem d_M_all_5 : decode (ab_bc mt_M_all) 5 = .ok (.iload_n 1, 1) := by decide +kernel
theorem d_M_all_6 : decode (ab_bc mt_M_all) 6 = .ok (.iconst 0, 1) := by decide +kernel
theorem d_M_all_7 : decode (ab_bc mt_M_all) 7 = .ok (.iconst 3, 1) := by decide +kernel
theorem d_M_all_8 : decode (ab_bc mt_M_all) 8 = .ok (.invokestatic 344, 3) := by decide +kernel
theorem d_M_all_11 : decode (ab_bc mt_M_all) 11 = .ok (.ifCond .eq 22, 3) := by decide +kernel
theorem d_M_all_14 : decode (ab_bc mt_M_all) 14 = .ok (.iload_n 2, 1) := by decide +kernel
theorem d_M_all_15 : decode (ab_bc mt_M_all) 15 = .ok (.bipush (-50), 2) := by decide +kernel
theorem d_M_all_17 : decode (ab_bc mt_M_all) 17 = .ok (.bipush 100, 2) := by decide +kernel
theorem d_M_all_19 : decode (ab_bc mt_M_all) 19 = .ok (.invokestatic 344, 3) := by decide +kernel
theorem d_M_all_22 : decode (ab_bc mt_M_all) 22 = .ok (.ifCond .eq 11, 3) := by decide +kernel
theorem d_M_all_25 : decode (ab_bc mt_M_all) 25 = .ok (.aload_n 0, 1) := by decide +kernel
theorem d_M_all_26 : decode (ab_bc mt_M_all) 26 = .ok (.iload_n 1, 1) := by decide +kernel
theorem d_M_all_27 : decode (ab_bc mt_M_all) 27 = .ok (.invokevirtual 443, 3) := by decide +kernel
theorem d_M_all_30 : decode (ab_bc mt_M_all) 30 = .ok (.ifCond .ne 9, 3) := by decide +kernel
theorem d_M_all_33 : decode (ab_bc mt_M_all) 33 = .ok (.aload_n 0, 1) := by decide +kernel
theorem d_M_all_34 : decode (ab_bc mt_M_all) 34 = .ok (.iconst 1, 1) := by decide +kernel
theorem d_M_all_35 : decode (ab_bc mt_M_all) 35 = .ok (.invokevirtual 434, 3) := by decide +kernel
theorem d_M_all_38 : decode (ab_bc mt_M_all) 38 = .ok (.ireturn, 1) := by decide +kernel
theorem d_M_all_39 : decode (ab_bc mt_M_all) 39 = .ok (.aload_n 0, 1) := by decide +kernel
theorem d_M_all_40 : decode (ab_bc mt_M_all) 40 = .ok (.invokevirtual 437, 3) := by decide +kernel
theorem d_M_all_43 : decode (ab_bc mt_M_all) 43 = .ok (.iconst 0, 1) := by decide +kernel
theorem d_M_all_44 : decode (ab_bc mt_M_all) 44 = .ok (.istore_n 3, 1) := by decide +kernel
theorem d_M_all_45 : decode (ab_bc mt_M_all) 45 = .ok (.iload_n 3, 1) := by decide +kernel
theorem d_M_all_46 : decode (ab_bc mt_M_all) 46 = .ok (.aload_n 0, 1) := by decide +kernel
theorem d_M_all_47 : decode (ab_bc mt_M_all) 47 = .ok (.invokevirtual 234, 3) := by decide +kernel
theorem d_M_all_50 : decode (ab_bc mt_M_all) 50 = .ok (.if_icmp .ge 50, 3) := by decide +kernel
theorem d_M_all_53 : decode (ab_bc mt_M_all) 53 = .ok (.aload_n 0, 1) := by decide +kernel
theorem d_M_all_54 : decode (ab_bc mt_M_all) 54 = .ok (.getfield 24, 3) := by decide +kernel
theorem d_M_all_57 : decode (ab_bc mt_M_all) 57 = .ok (.bipush 75, 2) := by decide +kernel
theorem d_M_all_59 : decode (ab_bc mt_M_all) 59 = .ok (.iload_n 3, 1) := by decide +kernel
theorem d_M_all_60 : decode (ab_bc mt_M_all) 60 = .ok (.iadd, 1) := by decide +kernel
theorem d_M_all_61 : decode (ab_bc mt_M_all) 61 = .ok (.iaload, 1) := by decide +kernel
theorem d_M_all_62 : decode (ab_bc mt_M_all) 62 = .ok (.iload_n 1, 1) := by decide +kernel
theorem d_M_all_63 : decode (ab_bc mt_M_all) 63 = .ok (.if_icmp .ne 31, 3) := by decide +kernel
theorem d_M_all_66 : decode (ab_bc mt_M_all) 66 = .ok (.aload_n 0, 1) := by decide +kernel
theorem d_M_all_67 : decode (ab_bc mt_M_all) 67 = .ok (.iload_n 3, 1) := by decide +kernel
theorem d_M_all_68 : decode (ab_bc mt_M_all) 68 = .ok (.iconst 1, 1) := by decide +kernel
theorem d_M_all_69 : decode (ab_bc mt_M_all) 69 = .ok (.sipush 999, 3) := by decide +kernel
theorem d_M_all_72 : decode (ab_bc mt_M_all) 72 = .ok (.aload_n 0, 1) := by decide +kernel
theorem d_M_all_73 : decode (ab_bc mt_M_all) 73 = .ok (.iload_n 3, 1) := by decide +kernel
theorem d_M_all_74 : decode (ab_bc mt_M_all) 74 = .ok (.invokevirtual 222, 3) := by decide +kernel
theorem d_M_all_77 : decode (ab_bc mt_M_all) 77 = .ok (.bipush 100, 2) := by decide +kernel
theorem d_M_all_79 : decode (ab_bc mt_M_all) 79 = .ok (.iload_n 2, 1) := by decide +kernel
theorem d_M_all_80 : decode (ab_bc mt_M_all) 80 = .ok (.iadd, 1) := by decide +kernel
theorem d_M_all_81 : decode (ab_bc mt_M_all) 81 = .ok (.imul, 1) := by decide +kernel
theorem d_M_all_82 : decode (ab_bc mt_M_all) 82 = .ok (.bipush 100, 2) := by decide +kernel
theorem d_M_all_84 : decode (ab_bc mt_M_all) 84 = .ok (.idiv, 1) := by decide +kernel
theorem d_M_all_85 : decode (ab_bc mt_M_all) 85 = .ok (.invokestatic 141, 3) := by decide +kernel
theorem d_M_all_88 : decode (ab_bc mt_M_all) 88 = .ok (.invokestatic 225, 3) := by decide +kernel
theorem d_M_all_91 : decode (ab_bc mt_M_all) 91 = .ok (.invokevirtual 440, 3) := by decide +kernel
theorem d_M_all_94 : decode (ab_bc mt_M_all) 94 = .ok (.iinc 3 1, 3) := by decide +kernel
theorem d_M_all_97 : decode (ab_bc mt_M_all) 97 = .ok (.goto (-52), 3) := by decide +kernel
theorem d_M_all_100 : decode (ab_bc mt_M_all) 100 = .ok (.aload_n 0, 1) := by decide +kernel
theorem d_M_all_101 : decode (ab_bc mt_M_all) 101 = .ok (.invokevirtual 294, 3) := by decide +kernel
theorem d_M_all_104 : decode (ab_bc mt_M_all) 104 = .ok (.ireturn, 1) := by decide +kernel
-- CableKeeperModel.all(II)I over mx
theorem q_M_all_0 {w : ab_Wd} {d n nc ns : Nat} {I : Nat → Nat → Int32} {L : Nat → Nat → Int64} {res : ab_Re} (v1 : Int32) (v2 : Int32) (hc : nc ≤ res.2.2.2.2.2.1) (hs : ns ≤ res.2.2.2.2.2.2)
    (h : ∃ (r1 : Int32), ab_C w d mt_M_isIn [.int v1, .int 0, .int 3] ((ab_up I mx 1 0), L, ab_RR, n, nc, ns) (.inl (some (.int r1)), ((ab_up I mx 1 0), L, ab_RR, n, nc, ns)) ∧ ((r1 = 0 → (ab_E w (d + 1) mt_M_all 33 [.ref mx, .int v1, .int v2, .null] [] ((ab_up I mx 1 0), L, ab_RR, n, nc, ns) res)) ∧ (¬ r1 = 0 → (∃ (r3 : Int32), ab_C w d mt_M_isIn [.int v2, .int (-50), .int 100] ((ab_up I mx 1 0), L, ab_RR, n, nc, ns) (.inl (some (.int r3)), ((ab_up I mx 1 0), L, ab_RR, n, nc, ns)) ∧ ((r3 = 0 → (ab_E w (d + 1) mt_M_all 33 [.ref mx, .int v1, .int v2, .null] [] ((ab_up I mx 1 0), L, ab_RR, n, nc, ns) res)) ∧ (¬ r3 = 0 → (∃ (r5 : Int32), ab_C w d mt_M_hasCables [.ref mx, .int v1] ((ab_up I mx 1 0), L, ab_RR, n, nc, ns) (.inl (some (.int r5)), ((ab_up I mx 1 0), L, ab_RR, n, nc, ns)) ∧ ((¬ r5 = 0 → (∃ (I8 : Nat → Nat → Int32), ab_C w d mt_M_keep [.ref mx] ((ab_up I mx 1 0), L, ab_RR, n, nc, ns) (.inl none, (I8, L, ab_RR, n, nc, ns)) ∧ ab_E w (d + 1) mt_M_all 45 [.ref mx, .int v1, .int v2, .int 0] [] (I8, L, ab_RR, n, nc, ns) res)) ∧ (r5 = 0 → (ab_E w (d + 1) mt_M_all 33 [.ref mx, .int v1, .int v2, .null] [] ((ab_up I mx 1 0), L, ab_RR, n, nc, ns) res)))))))))) : ab_E w (d + 1) mt_M_all 0 [.ref mx, .int v1, .int v2, .null] [] (I, L, ab_RR, n, nc, ns) res := by
  refine ab_aload_n (i := 0) d_M_all_0 rfl rfl ?_
  refine ab_iconst (v := 0) d_M_all_1 rfl ?_
  refine ab_putI (ci := 11) (k := 1) d_M_all_2 v_1369 rfl (by decide) (by decide) rfl (Or.inl rfl) rfl rfl ?_
  refine ab_iload_n (i := 1) d_M_all_5 rfl rfl ?_
  refine ab_iconst (v := 0) d_M_all_6 rfl ?_
  refine ab_iconst (v := 3) d_M_all_7 rfl ?_
  obtain ⟨r1, hC, h⟩ := h
  refine ab_callS (me2 := mt_M_isIn) (as := [.int v1, .int 0, .int 3]) (st := []) (rv := (some (.int r1))) (M2 := ((ab_up I mx 1 0), L, ab_RR, n, nc, ns)) d_M_all_8 ce_M_isIn ⟨v_1753, Or.inl v_1752⟩ (by decide) hC (Nat.le_refl _) (Nat.le_refl _) hc hs (fun j h9 => by cases h9) (fun _ _ => rfl) ?_
  show ab_E w (d + 1) mt_M_all 11 [.ref mx, .int v1, .int v2, .null] [.int r1] ((ab_up I mx 1 0), L, ab_RR, n, nc, ns) res
  refine ab_if_eq (tgt := 33) d_M_all_11 (by decide) (fun c2 => ?_) (fun c2 => ?_)
  · have h := h.1 c2
    exact h
  · have h := h.2 c2
    refine ab_iload_n (i := 2) d_M_all_14 rfl rfl ?_
    refine ab_bipush (v := (-50)) d_M_all_15 rfl ?_
    refine ab_bipush (v := 100) d_M_all_17 rfl ?_
    obtain ⟨r3, hC, h⟩ := h
    refine ab_callS (me2 := mt_M_isIn) (as := [.int v2, .int (-50), .int 100]) (st := []) (rv := (some (.int r3))) (M2 := ((ab_up I mx 1 0), L, ab_RR, n, nc, ns)) d_M_all_19 ce_M_isIn ⟨v_1753, Or.inl v_1752⟩ (by decide) hC (Nat.le_refl _) (Nat.le_refl _) hc hs (fun j h9 => by cases h9) (fun _ _ => rfl) ?_
    show ab_E w (d + 1) mt_M_all 22 [.ref mx, .int v1, .int v2, .null] [.int r3] ((ab_up I mx 1 0), L, ab_RR, n, nc, ns) res
    refine ab_if_eq (tgt := 33) d_M_all_22 (by decide) (fun c4 => ?_) (fun c4 => ?_)
    · have h := h.1 c4
      exact h
    · have h := h.2 c4
      refine ab_aload_n (i := 0) d_M_all_25 rfl rfl ?_
      refine ab_iload_n (i := 1) d_M_all_26 rfl rfl ?_
      obtain ⟨r5, hC, h⟩ := h
      refine ab_callV (me2 := mt_M_hasCables) (b := mx) (as := [.int v1]) (st := []) (rv := (some (.int r5))) (M2 := ((ab_up I mx 1 0), L, ab_RR, n, nc, ns)) d_M_all_27 ce_M_hasCables v_1924 v_1926 v_132 (by decide) rfl (by decide) hC (Nat.le_refl _) (Nat.le_refl _) hc hs (fun j h9 => by cases h9) (fun _ _ => rfl) ?_
      show ab_E w (d + 1) mt_M_all 30 [.ref mx, .int v1, .int v2, .null] [.int r5] ((ab_up I mx 1 0), L, ab_RR, n, nc, ns) res
      refine ab_if_ne (tgt := 39) d_M_all_30 (by decide) (fun c6 => ?_) (fun c6 => ?_)
      · have h := h.1 c6
        refine ab_aload_n (i := 0) d_M_all_39 rfl rfl ?_
        obtain ⟨I8, hC, h⟩ := h
        refine ab_callV (me2 := mt_M_keep) (b := mx) (as := []) (st := []) (rv := none) (M2 := (I8, L, ab_RR, n, nc, ns)) d_M_all_40 ce_M_keep v_1904 v_1906 v_129 (by decide) rfl (by decide) hC (Nat.le_refl _) (Nat.le_refl _) hc hs (fun j h9 => by cases h9) (fun _ _ => rfl) ?_
        show ab_E w (d + 1) mt_M_all 43 [.ref mx, .int v1, .int v2, .null] [] (I8, L, ab_RR, n, nc, ns) res
        refine ab_iconst (v := 0) d_M_all_43 rfl ?_
        refine ab_istore_n (i := 3) d_M_all_44 rfl (by decide) (Or.inr rfl) ?_
        exact h
      · have h := h.2 c6
        exact h
theorem q_M_all_33 {w : ab_Wd} {d n nc ns : Nat} {I : Nat → Nat → Int32} {L : Nat → Nat → Int64} {res : ab_Re} (v1 : Int32) (v2 : Int32) (hc : nc ≤ res.2.2.2.2.2.1) (hs : ns ≤ res.2.2.2.2.2.2)
    (h : ∃ (r1 : Int32) (I2 : Nat → Nat → Int32), ab_C w d mt_M_refuse [.ref mx, .int 1] (I, L, ab_RR, n, nc, ns) (.inl (some (.int r1)), (I2, L, ab_RR, n, nc, ns)) ∧ res = (.inl (some (.int r1)), (I2, L, ab_RR, n, nc, ns))) : ab_E w (d + 1) mt_M_all 33 [.ref mx, .int v1, .int v2, .null] [] (I, L, ab_RR, n, nc, ns) res := by
  refine ab_aload_n (i := 0) d_M_all_33 rfl rfl ?_
  refine ab_iconst (v := 1) d_M_all_34 rfl ?_
  obtain ⟨r1, I2, hC, h⟩ := h
  refine ab_callV (me2 := mt_M_refuse) (b := mx) (as := [.int 1]) (st := []) (rv := (some (.int r1))) (M2 := (I2, L, ab_RR, n, nc, ns)) d_M_all_35 ce_M_refuse v_1900 v_1902 v_128 (by decide) rfl (by decide) hC (Nat.le_refl _) (Nat.le_refl _) hc hs (fun j h9 => by cases h9) (fun _ _ => rfl) ?_
  show ab_E w (d + 1) mt_M_all 38 [.ref mx, .int v1, .int v2, .null] [.int r1] (I2, L, ab_RR, n, nc, ns) res
  exact ab_iret (ty := .int) d_M_all_38 rfl rfl h
theorem q_M_all_45 {w : ab_Wd} {d n nc ns : Nat} {I : Nat → Nat → Int32} {L : Nat → Nat → Int64} {res : ab_Re} (v1 : Int32) (v2 : Int32) (v3 : Int32) (hc : nc ≤ res.2.2.2.2.2.1) (hs : ns ≤ res.2.2.2.2.2.2)
    (h : ∃ (r1 : Int32), ab_C w d mt_M_many [.ref mx] (I, L, ab_RR, n, nc, ns) (.inl (some (.int r1)), (I, L, ab_RR, n, nc, ns)) ∧ ((r1 ≤ v3 → (∃ (r3 : Int32) (I4 : Nat → Nat → Int32), ab_C w d mt_M_totalNow [.ref mx] (I, L, ab_RR, n, nc, ns) (.inl (some (.int r3)), (I4, L, ab_RR, n, nc, ns)) ∧ res = (.inl (some (.int r3)), (I4, L, ab_RR, n, nc, ns)))) ∧ (¬ r1 ≤ v3 → ((vp_in (75 + v3) 399) ∧ ((¬ (I mx_now (75 + v3).toNatClampNeg) = v1 → (ab_E w (d + 1) mt_M_all 94 [.ref mx, .int v1, .int v2, .int v3] [] (I, L, ab_RR, n, nc, ns) res)) ∧ ((I mx_now (75 + v3).toNatClampNeg) = v1 → (∃ (r7 : Int32), ab_C w d mt_M_priceOf [.ref mx, .int v3] (I, L, ab_RR, n, nc, ns) (.inl (some (.int r7)), (I, L, ab_RR, n, nc, ns)) ∧ ∃ (I9 : Nat → Nat → Int32), ab_C w d mt_M_pricesNow [.ref mx, .int v3, .int (ab_max32 1 (ab_min32 999 ((r7 * (100 + v2)) / 100)))] (I, L, ab_RR, n, nc, ns) (.inl none, (I9, L, ab_RR, n, nc, ns)) ∧ ab_E w (d + 1) mt_M_all 94 [.ref mx, .int v1, .int v2, .int v3] [] (I9, L, ab_RR, n, nc, ns) res))))))) : ab_E w (d + 1) mt_M_all 45 [.ref mx, .int v1, .int v2, .int v3] [] (I, L, ab_RR, n, nc, ns) res := by
  refine ab_iload_n (i := 3) d_M_all_45 rfl rfl ?_
  refine ab_aload_n (i := 0) d_M_all_46 rfl rfl ?_
  obtain ⟨r1, hC, h⟩ := h
  refine ab_callV (me2 := mt_M_many) (b := mx) (as := []) (st := [.int v3]) (rv := (some (.int r1))) (M2 := (I, L, ab_RR, n, nc, ns)) d_M_all_47 ce_M_many v_1635 v_1637 v_79 (by decide) rfl (by decide) hC (Nat.le_refl _) (Nat.le_refl _) hc hs (fun j h9 => by cases h9) (fun _ _ => rfl) ?_
  show ab_E w (d + 1) mt_M_all 50 [.ref mx, .int v1, .int v2, .int v3] [.int r1, .int v3] (I, L, ab_RR, n, nc, ns) res
  refine ab_icmp_ge (tgt := 100) d_M_all_50 (by decide) (fun c2 => ?_) (fun c2 => ?_)
  · have h := h.1 c2
    refine ab_aload_n (i := 0) d_M_all_100 rfl rfl ?_
    obtain ⟨r3, I4, hC, h⟩ := h
    refine ab_callV (me2 := mt_M_totalNow) (b := mx) (as := []) (st := []) (rv := (some (.int r3))) (M2 := (I4, L, ab_RR, n, nc, ns)) d_M_all_101 ce_M_totalNow v_1663 v_1665 v_85 (by decide) rfl (by decide) hC (Nat.le_refl _) (Nat.le_refl _) hc hs (fun j h9 => by cases h9) (fun _ _ => rfl) ?_
    show ab_E w (d + 1) mt_M_all 104 [.ref mx, .int v1, .int v2, .int v3] [.int r3] (I4, L, ab_RR, n, nc, ns) res
    exact ab_iret (ty := .int) d_M_all_104 rfl rfl h
  · have h := h.2 c2
    refine ab_aload_n (i := 0) d_M_all_53 rfl rfl ?_
    refine ab_getR (ci := 11) (k := 4) (j := mx_now) d_M_all_54 v_1372 rfl (by decide) (by decide) rfl r_mx_4 ?_
    refine ab_bipush (v := 75) d_M_all_57 rfl ?_
    refine ab_iload_n (i := 3) d_M_all_59 rfl rfl ?_
    refine ab_iadd d_M_all_60 ?_
    have g5 := h.1; have h := h.2
    refine ab_iald d_M_all_61 rfl rfl g5 ?_
    refine ab_iload_n (i := 1) d_M_all_62 rfl rfl ?_
    refine ab_icmp_ne (tgt := 94) d_M_all_63 (by decide) (fun c6 => ?_) (fun c6 => ?_)
    · have h := h.1 c6
      exact h
    · have h := h.2 c6
      refine ab_aload_n (i := 0) d_M_all_66 rfl rfl ?_
      refine ab_iload_n (i := 3) d_M_all_67 rfl rfl ?_
      refine ab_iconst (v := 1) d_M_all_68 rfl ?_
      refine ab_sipush (v := 999) d_M_all_69 rfl ?_
      refine ab_aload_n (i := 0) d_M_all_72 rfl rfl ?_
      refine ab_iload_n (i := 3) d_M_all_73 rfl rfl ?_
      obtain ⟨r7, hC, h⟩ := h
      refine ab_callV (me2 := mt_M_priceOf) (b := mx) (as := [.int v3]) (st := [.int 999, .int 1, .int v3, .ref mx]) (rv := (some (.int r7))) (M2 := (I, L, ab_RR, n, nc, ns)) d_M_all_74 ce_M_priceOf v_1654 v_1656 v_83 (by decide) rfl (by decide) hC (Nat.le_refl _) (Nat.le_refl _) hc hs (fun j h9 => by cases h9) (fun _ _ => rfl) ?_
      show ab_E w (d + 1) mt_M_all 77 [.ref mx, .int v1, .int v2, .int v3] [.int r7, .int 999, .int 1, .int v3, .ref mx] (I, L, ab_RR, n, nc, ns) res
      refine ab_bipush (v := 100) d_M_all_77 rfl ?_
      refine ab_iload_n (i := 2) d_M_all_79 rfl rfl ?_
      refine ab_iadd d_M_all_80 ?_
      refine ab_imul d_M_all_81 ?_
      refine ab_bipush (v := 100) d_M_all_82 rfl ?_
      refine ab_idiv d_M_all_84 (by decide) ?_
      refine ab_min d_M_all_85 v_1581 v_448 v_150 v_449 (Nat.succ_le_succ (Nat.zero_le _)) (by decide) hc hs ?_
      refine ab_max d_M_all_88 v_1662 v_451 v_150 v_452 (Nat.succ_le_succ (Nat.zero_le _)) (by decide) hc hs ?_
      obtain ⟨I9, hC, h⟩ := h
      refine ab_callV (me2 := mt_M_pricesNow) (b := mx) (as := [.int v3, .int (ab_max32 1 (ab_min32 999 ((r7 * (100 + v2)) / 100)))]) (st := []) (rv := none) (M2 := (I9, L, ab_RR, n, nc, ns)) d_M_all_91 ce_M_pricesNow v_1908 v_1910 v_130 (by decide) rfl (by decide) hC (Nat.le_refl _) (Nat.le_refl _) hc hs (fun j h9 => by cases h9) (fun _ _ => rfl) ?_
      show ab_E w (d + 1) mt_M_all 94 [.ref mx, .int v1, .int v2, .int v3] [] (I9, L, ab_RR, n, nc, ns) res
      exact h
theorem q_M_all_94 {w : ab_Wd} {d n nc ns : Nat} {I : Nat → Nat → Int32} {L : Nat → Nat → Int64} {res : ab_Re} (v1 : Int32) (v2 : Int32) (v3 : Int32) (hc : nc ≤ res.2.2.2.2.2.1) (hs : ns ≤ res.2.2.2.2.2.2)
    (h : ab_E w (d + 1) mt_M_all 45 [.ref mx, .int v1, .int v2, .int (v3 + 1)] [] (I, L, ab_RR, n, nc, ns) res) : ab_E w (d + 1) mt_M_all 94 [.ref mx, .int v1, .int v2, .int v3] [] (I, L, ab_RR, n, nc, ns) res := by
  refine ab_iinc (i := 3) (v := (v3 + 1)) d_M_all_94 rfl rfl (by decide) (Or.inr rfl) ?_
  refine ab_goto (tgt := 45) d_M_all_97 (by decide) ?_
  exact h
theorem d_M_turns_0 : decode (ab_bc mt_M_turns) 0 = .ok (.aload_n 0, 1) := by decide +kernel
theorem d_M_turns_1 : decode (ab_bc mt_M_turns) 1 = .ok (.iconst 0, 1) := by decide +kernel
theorem d_M_turns_2 : decode (ab_bc mt_M_turns) 2 = .ok (.putfield 108, 3) := by decide +kernel
theorem d_M_turns_5 : decode (ab_bc mt_M_turns) 5 = .ok (.aload_n 0, 1) := by decide +kernel
theorem d_M_turns_6 : decode (ab_bc mt_M_turns) 6 = .ok (.iload_n 1, 1) := by decide +kernel
theorem d_M_turns_7 : decode (ab_bc mt_M_turns) 7 = .ok (.invokevirtual 348, 3) := by decide +kernel
theorem d_M_turns_10 : decode (ab_bc mt_M_turns) 10 = .ok (.ifCond .eq 12, 3) := by decide +kernel
theorem d_M_turns_13 : decode (ab_bc mt_M_turns) 13 = .ok (.aload_n 0, 1) := by decide +kernel
theorem d_M_turns_14 : decode (ab_bc mt_M_turns) 14 = .ok (.iload_n 1, 1) := by decide +kernel
theorem d_M_turns_15 : decode (ab_bc mt_M_turns) 15 = .ok (.invokevirtual 262, 3) := by decide +kernel
theorem d_M_turns_18 : decode (ab_bc mt_M_turns) 18 = .ok (.iload_n 2, 1) := by decide +kernel
theorem d_M_turns_19 : decode (ab_bc mt_M_turns) 19 = .ok (.if_icmp .eq 9, 3) := by decide +kernel
theorem d_M_turns_22 : decode (ab_bc mt_M_turns) 22 = .ok (.aload_n 0, 1) := by decide +kernel
theorem d_M_turns_23 : decode (ab_bc mt_M_turns) 23 = .ok (.iconst 1, 1) := by decide +kernel
theorem d_M_turns_24 : decode (ab_bc mt_M_turns) 24 = .ok (.invokevirtual 434, 3) := by decide +kernel
theorem d_M_turns_27 : decode (ab_bc mt_M_turns) 27 = .ok (.ireturn, 1) := by decide +kernel
theorem d_M_turns_28 : decode (ab_bc mt_M_turns) 28 = .ok (.aload_n 0, 1) := by decide +kernel
theorem d_M_turns_29 : decode (ab_bc mt_M_turns) 29 = .ok (.invokevirtual 437, 3) := by decide +kernel
theorem d_M_turns_32 : decode (ab_bc mt_M_turns) 32 = .ok (.aload_n 0, 1) := by decide +kernel
theorem d_M_turns_33 : decode (ab_bc mt_M_turns) 33 = .ok (.iload_n 1, 1) := by decide +kernel
theorem d_M_turns_34 : decode (ab_bc mt_M_turns) 34 = .ok (.invokevirtual 446, 3) := by decide +kernel
theorem d_M_turns_37 : decode (ab_bc mt_M_turns) 37 = .ok (.aload_n 0, 1) := by decide +kernel
theorem d_M_turns_38 : decode (ab_bc mt_M_turns) 38 = .ok (.invokevirtual 297, 3) := by decide +kernel
theorem d_M_turns_41 : decode (ab_bc mt_M_turns) 41 = .ok (.ireturn, 1) := by decide +kernel
-- CableKeeperModel.turns(IZ)I over mx
theorem q_M_turns_0 {w : ab_Wd} {d n nc ns : Nat} {I : Nat → Nat → Int32} {L : Nat → Nat → Int64} {res : ab_Re} (v1 : Int32) (v2 : Int32) (hc : nc ≤ res.2.2.2.2.2.1) (hs : ns ≤ res.2.2.2.2.2.2)
    (h : ∃ (r1 : Int32), ab_C w d mt_M_isCable [.ref mx, .int v1] ((ab_up I mx 1 0), L, ab_RR, n, nc, ns) (.inl (some (.int r1)), ((ab_up I mx 1 0), L, ab_RR, n, nc, ns)) ∧ ((r1 = 0 → (ab_E w (d + 1) mt_M_turns 22 [.ref mx, .int v1, .int v2] [] ((ab_up I mx 1 0), L, ab_RR, n, nc, ns) res)) ∧ (¬ r1 = 0 → (∃ (r3 : Int32), ab_C w d mt_M_isSound [.ref mx, .int v1] ((ab_up I mx 1 0), L, ab_RR, n, nc, ns) (.inl (some (.int r3)), ((ab_up I mx 1 0), L, ab_RR, n, nc, ns)) ∧ ((r3 = v2 → (∃ (I6 : Nat → Nat → Int32), ab_C w d mt_M_keep [.ref mx] ((ab_up I mx 1 0), L, ab_RR, n, nc, ns) (.inl none, (I6, L, ab_RR, n, nc, ns)) ∧ ∃ (I8 : Nat → Nat → Int32), ab_C w d mt_M_turnsNow [.ref mx, .int v1] (I6, L, ab_RR, n, nc, ns) (.inl none, (I8, L, ab_RR, n, nc, ns)) ∧ ∃ (r9 : Int32) (I10 : Nat → Nat → Int32), ab_C w d mt_M_piecesNow [.ref mx] (I8, L, ab_RR, n, nc, ns) (.inl (some (.int r9)), (I10, L, ab_RR, n, nc, ns)) ∧ res = (.inl (some (.int r9)), (I10, L, ab_RR, n, nc, ns)))) ∧ (¬ r3 = v2 → (ab_E w (d + 1) mt_M_turns 22 [.ref mx, .int v1, .int v2] [] ((ab_up I mx 1 0), L, ab_RR, n, nc, ns) res))))))) : ab_E w (d + 1) mt_M_turns 0 [.ref mx, .int v1, .int v2] [] (I, L, ab_RR, n, nc, ns) res := by
  refine ab_aload_n (i := 0) d_M_turns_0 rfl rfl ?_
  refine ab_iconst (v := 0) d_M_turns_1 rfl ?_
  refine ab_putI (ci := 11) (k := 1) d_M_turns_2 v_1369 rfl (by decide) (by decide) rfl (Or.inl rfl) rfl rfl ?_
  refine ab_aload_n (i := 0) d_M_turns_5 rfl rfl ?_
  refine ab_iload_n (i := 1) d_M_turns_6 rfl rfl ?_
  obtain ⟨r1, hC, h⟩ := h
  refine ab_callV (me2 := mt_M_isCable) (b := mx) (as := [.int v1]) (st := []) (rv := (some (.int r1))) (M2 := ((ab_up I mx 1 0), L, ab_RR, n, nc, ns)) d_M_turns_7 ce_M_isCable v_1748 v_1750 v_105 (by decide) rfl (by decide) hC (Nat.le_refl _) (Nat.le_refl _) hc hs (fun j h9 => by cases h9) (fun _ _ => rfl) ?_
  show ab_E w (d + 1) mt_M_turns 10 [.ref mx, .int v1, .int v2] [.int r1] ((ab_up I mx 1 0), L, ab_RR, n, nc, ns) res
  refine ab_if_eq (tgt := 22) d_M_turns_10 (by decide) (fun c2 => ?_) (fun c2 => ?_)
  · have h := h.1 c2
    exact h
  · have h := h.2 c2
    refine ab_aload_n (i := 0) d_M_turns_13 rfl rfl ?_
    refine ab_iload_n (i := 1) d_M_turns_14 rfl rfl ?_
    obtain ⟨r3, hC, h⟩ := h
    refine ab_callV (me2 := mt_M_isSound) (b := mx) (as := [.int v1]) (st := []) (rv := (some (.int r3))) (M2 := ((ab_up I mx 1 0), L, ab_RR, n, nc, ns)) d_M_turns_15 ce_M_isSound v_1679 v_1681 v_89 (by decide) rfl (by decide) hC (Nat.le_refl _) (Nat.le_refl _) hc hs (fun j h9 => by cases h9) (fun _ _ => rfl) ?_
    show ab_E w (d + 1) mt_M_turns 18 [.ref mx, .int v1, .int v2] [.int r3] ((ab_up I mx 1 0), L, ab_RR, n, nc, ns) res
    refine ab_iload_n (i := 2) d_M_turns_18 rfl rfl ?_
    refine ab_icmp_eq (tgt := 28) d_M_turns_19 (by decide) (fun c4 => ?_) (fun c4 => ?_)
    · have h := h.1 c4
      refine ab_aload_n (i := 0) d_M_turns_28 rfl rfl ?_
      obtain ⟨I6, hC, h⟩ := h
      refine ab_callV (me2 := mt_M_keep) (b := mx) (as := []) (st := []) (rv := none) (M2 := (I6, L, ab_RR, n, nc, ns)) d_M_turns_29 ce_M_keep v_1904 v_1906 v_129 (by decide) rfl (by decide) hC (Nat.le_refl _) (Nat.le_refl _) hc hs (fun j h9 => by cases h9) (fun _ _ => rfl) ?_
      show ab_E w (d + 1) mt_M_turns 32 [.ref mx, .int v1, .int v2] [] (I6, L, ab_RR, n, nc, ns) res
      refine ab_aload_n (i := 0) d_M_turns_32 rfl rfl ?_
      refine ab_iload_n (i := 1) d_M_turns_33 rfl rfl ?_
      obtain ⟨I8, hC, h⟩ := h
      refine ab_callV (me2 := mt_M_turnsNow) (b := mx) (as := [.int v1]) (st := []) (rv := none) (M2 := (I8, L, ab_RR, n, nc, ns)) d_M_turns_34 ce_M_turnsNow v_1936 v_1938 v_134 (by decide) rfl (by decide) hC (Nat.le_refl _) (Nat.le_refl _) hc hs (fun j h9 => by cases h9) (fun _ _ => rfl) ?_
      show ab_E w (d + 1) mt_M_turns 37 [.ref mx, .int v1, .int v2] [] (I8, L, ab_RR, n, nc, ns) res
      refine ab_aload_n (i := 0) d_M_turns_37 rfl rfl ?_
      obtain ⟨r9, I10, hC, h⟩ := h
      refine ab_callV (me2 := mt_M_piecesNow) (b := mx) (as := []) (st := []) (rv := (some (.int r9))) (M2 := (I10, L, ab_RR, n, nc, ns)) d_M_turns_38 ce_M_piecesNow v_1667 v_1669 v_86 (by decide) rfl (by decide) hC (Nat.le_refl _) (Nat.le_refl _) hc hs (fun j h9 => by cases h9) (fun _ _ => rfl) ?_
      show ab_E w (d + 1) mt_M_turns 41 [.ref mx, .int v1, .int v2] [.int r9] (I10, L, ab_RR, n, nc, ns) res
      exact ab_iret (ty := .int) d_M_turns_41 rfl rfl h
    · have h := h.2 c4
      exact h
theorem q_M_turns_22 {w : ab_Wd} {d n nc ns : Nat} {I : Nat → Nat → Int32} {L : Nat → Nat → Int64} {res : ab_Re} (v1 : Int32) (v2 : Int32) (hc : nc ≤ res.2.2.2.2.2.1) (hs : ns ≤ res.2.2.2.2.2.2)
    (h : ∃ (r1 : Int32) (I2 : Nat → Nat → Int32), ab_C w d mt_M_refuse [.ref mx, .int 1] (I, L, ab_RR, n, nc, ns) (.inl (some (.int r1)), (I2, L, ab_RR, n, nc, ns)) ∧ res = (.inl (some (.int r1)), (I2, L, ab_RR, n, nc, ns))) : ab_E w (d + 1) mt_M_turns 22 [.ref mx, .int v1, .int v2] [] (I, L, ab_RR, n, nc, ns) res := by
  refine ab_aload_n (i := 0) d_M_turns_22 rfl rfl ?_
  refine ab_iconst (v := 1) d_M_turns_23 rfl ?_
  obtain ⟨r1, I2, hC, h⟩ := h
  refine ab_callV (me2 := mt_M_refuse) (b := mx) (as := [.int 1]) (st := []) (rv := (some (.int r1))) (M2 := (I2, L, ab_RR, n, nc, ns)) d_M_turns_24 ce_M_refuse v_1900 v_1902 v_128 (by decide) rfl (by decide) hC (Nat.le_refl _) (Nat.le_refl _) hc hs (fun j h9 => by cases h9) (fun _ _ => rfl) ?_
  show ab_E w (d + 1) mt_M_turns 27 [.ref mx, .int v1, .int v2] [.int r1] (I2, L, ab_RR, n, nc, ns) res
  exact ab_iret (ty := .int) d_M_turns_27 rfl rfl h
theorem d_M_breaks_0 : decode (ab_bc mt_M_breaks) 0 = .ok (.aload_n 0, 1) := by decide +kernel
theorem d_M_breaks_1 : decode (ab_bc mt_M_breaks) 1 = .ok (.iload_n 1, 1) := by decide +kernel
theorem d_M_breaks_2 : decode (ab_bc mt_M_breaks) 2 = .ok (.iconst 1, 1) := by decide +kernel
theorem d_M_breaks_3 : decode (ab_bc mt_M_breaks) 3 = .ok (.invokevirtual 449, 3) := by decide +kernel
theorem d_M_breaks_6 : decode (ab_bc mt_M_breaks) 6 = .ok (.ireturn, 1) := by decide +kernel
-- CableKeeperModel.breaks(I)I over mx
theorem q_M_breaks_0 {w : ab_Wd} {d n nc ns : Nat} {I : Nat → Nat → Int32} {L : Nat → Nat → Int64} {res : ab_Re} (v1 : Int32) (hc : nc ≤ res.2.2.2.2.2.1) (hs : ns ≤ res.2.2.2.2.2.2)
    (h : ∃ (r1 : Int32) (I2 : Nat → Nat → Int32), ab_C w d mt_M_turns [.ref mx, .int v1, .int 1] (I, L, ab_RR, n, nc, ns) (.inl (some (.int r1)), (I2, L, ab_RR, n, nc, ns)) ∧ res = (.inl (some (.int r1)), (I2, L, ab_RR, n, nc, ns))) : ab_E w (d + 1) mt_M_breaks 0 [.ref mx, .int v1] [] (I, L, ab_RR, n, nc, ns) res := by
  refine ab_aload_n (i := 0) d_M_breaks_0 rfl rfl ?_
  refine ab_iload_n (i := 1) d_M_breaks_1 rfl rfl ?_
  refine ab_iconst (v := 1) d_M_breaks_2 rfl ?_
  obtain ⟨r1, I2, hC, h⟩ := h
  refine ab_callV (me2 := mt_M_turns) (b := mx) (as := [.int v1, .int 1]) (st := []) (rv := (some (.int r1))) (M2 := (I2, L, ab_RR, n, nc, ns)) d_M_breaks_3 ce_M_turns v_1932 v_1934 v_133 (by decide) rfl (by decide) hC (Nat.le_refl _) (Nat.le_refl _) hc hs (fun j h9 => by cases h9) (fun _ _ => rfl) ?_
  show ab_E w (d + 1) mt_M_breaks 6 [.ref mx, .int v1] [.int r1] (I2, L, ab_RR, n, nc, ns) res
  exact ab_iret (ty := .int) d_M_breaks_6 rfl rfl h
theorem d_M_mend_0 : decode (ab_bc mt_M_mend) 0 = .ok (.aload_n 0, 1) := by decide +kernel
theorem d_M_mend_1 : decode (ab_bc mt_M_mend) 1 = .ok (.iload_n 1, 1) := by decide +kernel
theorem d_M_mend_2 : decode (ab_bc mt_M_mend) 2 = .ok (.iconst 0, 1) := by decide +kernel
theorem d_M_mend_3 : decode (ab_bc mt_M_mend) 3 = .ok (.invokevirtual 449, 3) := by decide +kernel
theorem d_M_mend_6 : decode (ab_bc mt_M_mend) 6 = .ok (.ireturn, 1) := by decide +kernel
-- CableKeeperModel.mend(I)I over mx
theorem q_M_mend_0 {w : ab_Wd} {d n nc ns : Nat} {I : Nat → Nat → Int32} {L : Nat → Nat → Int64} {res : ab_Re} (v1 : Int32) (hc : nc ≤ res.2.2.2.2.2.1) (hs : ns ≤ res.2.2.2.2.2.2)
    (h : ∃ (r1 : Int32) (I2 : Nat → Nat → Int32), ab_C w d mt_M_turns [.ref mx, .int v1, .int 0] (I, L, ab_RR, n, nc, ns) (.inl (some (.int r1)), (I2, L, ab_RR, n, nc, ns)) ∧ res = (.inl (some (.int r1)), (I2, L, ab_RR, n, nc, ns))) : ab_E w (d + 1) mt_M_mend 0 [.ref mx, .int v1] [] (I, L, ab_RR, n, nc, ns) res := by
  refine ab_aload_n (i := 0) d_M_mend_0 rfl rfl ?_
  refine ab_iload_n (i := 1) d_M_mend_1 rfl rfl ?_
  refine ab_iconst (v := 0) d_M_mend_2 rfl ?_
  obtain ⟨r1, I2, hC, h⟩ := h
  refine ab_callV (me2 := mt_M_turns) (b := mx) (as := [.int v1, .int 0]) (st := []) (rv := (some (.int r1))) (M2 := (I2, L, ab_RR, n, nc, ns)) d_M_mend_3 ce_M_turns v_1932 v_1934 v_133 (by decide) rfl (by decide) hC (Nat.le_refl _) (Nat.le_refl _) hc hs (fun j h9 => by cases h9) (fun _ _ => rfl) ?_
  show ab_E w (d + 1) mt_M_mend 6 [.ref mx, .int v1] [.int r1] (I2, L, ab_RR, n, nc, ns) res
  exact ab_iret (ty := .int) d_M_mend_6 rfl rfl h
