theorem d_Swaps_shown_0 : decode (ab_bc mt_Swaps_shown) 0 = .ok (.aload_n 0, 1) := by decide +kernel
theorem d_Swaps_shown_1 : decode (ab_bc mt_Swaps_shown) 1 = .ok (.getfield 13, 3) := by decide +kernel
theorem d_Swaps_shown_4 : decode (ab_bc mt_Swaps_shown) 4 = .ok (.bipush 60, 2) := by decide +kernel
theorem d_Swaps_shown_6 : decode (ab_bc mt_Swaps_shown) 6 = .ok (.invokestatic 23, 3) := by decide +kernel
theorem d_Swaps_shown_9 : decode (ab_bc mt_Swaps_shown) 9 = .ok (.ireturn, 1) := by decide +kernel
-- CableKeeper$Swaps.shown()I over kx_now_swaps
theorem q_Swaps_shown_0 {w : ab_Wd} {d n nc ns : Nat} {I : Nat → Nat → Int32} {L : Nat → Nat → Int64} {res : ab_Re}  (hc : nc ≤ res.2.2.2.2.2.1) (hs : ns ≤ res.2.2.2.2.2.2)
    (h : res = (.inl (some (.int (ab_min32 (I kx_now_swaps 1) 60))), (I, L, ab_RR, n, nc, ns))) : ab_E w (d + 1) mt_Swaps_shown 0 [.ref kx_now_swaps] [] (I, L, ab_RR, n, nc, ns) res := by
  refine ab_aload_n (i := 0) d_Swaps_shown_0 rfl rfl ?_
  refine ab_getI (ci := 7) (k := 1) d_Swaps_shown_1 v_259 rfl (by decide) (by decide) rfl ?_
  refine ab_bipush (v := 60) d_Swaps_shown_4 rfl ?_
  refine ab_min d_Swaps_shown_6 v_931 v_448 v_150 v_449 (Nat.succ_le_succ (Nat.zero_le _)) (Nat.le_of_ble_eq_true rfl) hc hs ?_
  exact ab_iret (ty := .int) d_Swaps_shown_9 rfl rfl h
theorem d_Swaps_cableIn_0 : decode (ab_bc mt_Swaps_cableIn) 0 = .ok (.iload_n 0, 1) := by decide +kernel
theorem d_Swaps_cableIn_1 : decode (ab_bc mt_Swaps_cableIn) 1 = .ok (.bipush 10, 2) := by decide +kernel
theorem d_Swaps_cableIn_3 : decode (ab_bc mt_Swaps_cableIn) 3 = .ok (.iushr, 1) := by decide +kernel
theorem d_Swaps_cableIn_4 : decode (ab_bc mt_Swaps_cableIn) 4 = .ok (.bipush 31, 2) := by decide +kernel
theorem d_Swaps_cableIn_6 : decode (ab_bc mt_Swaps_cableIn) 6 = .ok (.iand, 1) := by decide +kernel
theorem d_Swaps_cableIn_7 : decode (ab_bc mt_Swaps_cableIn) 7 = .ok (.ireturn, 1) := by decide +kernel
-- CableKeeper$Swaps.cableIn(I)I over 
theorem q_Swaps_cableIn_0 {w : ab_Wd} {d n nc ns : Nat} {I : Nat → Nat → Int32} {L : Nat → Nat → Int64} {res : ab_Re} (v0 : Int32) (hc : nc ≤ res.2.2.2.2.2.1) (hs : ns ≤ res.2.2.2.2.2.2)
    (h : res = (.inl (some (.int ((ab_ushr v0 10) &&& 31))), (I, L, ab_RR, n, nc, ns))) : ab_E w d mt_Swaps_cableIn 0 [.int v0] [] (I, L, ab_RR, n, nc, ns) res := by
  refine ab_iload_n (i := 0) d_Swaps_cableIn_0 rfl rfl ?_
  refine ab_bipush (v := 10) d_Swaps_cableIn_1 rfl ?_
  refine ab_iushr (v := (ab_ushr v0 10)) d_Swaps_cableIn_3 rfl ?_
  refine ab_bipush (v := 31) d_Swaps_cableIn_4 rfl ?_
  refine ab_iand d_Swaps_cableIn_6 ?_
  exact ab_iret (ty := .int) d_Swaps_cableIn_7 rfl rfl h
theorem d_Swaps_inIn_0 : decode (ab_bc mt_Swaps_inIn) 0 = .ok (.iload_n 0, 1) := by decide +kernel
theorem d_Swaps_inIn_1 : decode (ab_bc mt_Swaps_inIn) 1 = .ok (.bipush 31, 2) := by decide +kernel
theorem d_Swaps_inIn_3 : decode (ab_bc mt_Swaps_inIn) 3 = .ok (.iand, 1) := by decide +kernel
theorem d_Swaps_inIn_4 : decode (ab_bc mt_Swaps_inIn) 4 = .ok (.iconst 1, 1) := by decide +kernel
theorem d_Swaps_inIn_5 : decode (ab_bc mt_Swaps_inIn) 5 = .ok (.isub, 1) := by decide +kernel
theorem d_Swaps_inIn_6 : decode (ab_bc mt_Swaps_inIn) 6 = .ok (.ireturn, 1) := by decide +kernel
-- CableKeeper$Swaps.inIn(I)I over 
theorem q_Swaps_inIn_0 {w : ab_Wd} {d n nc ns : Nat} {I : Nat → Nat → Int32} {L : Nat → Nat → Int64} {res : ab_Re} (v0 : Int32) (hc : nc ≤ res.2.2.2.2.2.1) (hs : ns ≤ res.2.2.2.2.2.2)
    (h : res = (.inl (some (.int ((v0 &&& 31) - 1))), (I, L, ab_RR, n, nc, ns))) : ab_E w d mt_Swaps_inIn 0 [.int v0] [] (I, L, ab_RR, n, nc, ns) res := by
  refine ab_iload_n (i := 0) d_Swaps_inIn_0 rfl rfl ?_
  refine ab_bipush (v := 31) d_Swaps_inIn_1 rfl ?_
  refine ab_iand d_Swaps_inIn_3 ?_
  refine ab_iconst (v := 1) d_Swaps_inIn_4 rfl ?_
  refine ab_isub d_Swaps_inIn_5 ?_
  exact ab_iret (ty := .int) d_Swaps_inIn_6 rfl rfl h
theorem d_Swaps_outIn_0 : decode (ab_bc mt_Swaps_outIn) 0 = .ok (.iload_n 0, 1) := by decide +kernel
theorem d_Swaps_outIn_1 : decode (ab_bc mt_Swaps_outIn) 1 = .ok (.iconst 5, 1) := by decide +kernel
theorem d_Swaps_outIn_2 : decode (ab_bc mt_Swaps_outIn) 2 = .ok (.iushr, 1) := by decide +kernel
theorem d_Swaps_outIn_3 : decode (ab_bc mt_Swaps_outIn) 3 = .ok (.bipush 31, 2) := by decide +kernel
theorem d_Swaps_outIn_5 : decode (ab_bc mt_Swaps_outIn) 5 = .ok (.iand, 1) := by decide +kernel
theorem d_Swaps_outIn_6 : decode (ab_bc mt_Swaps_outIn) 6 = .ok (.iconst 1, 1) := by decide +kernel
theorem d_Swaps_outIn_7 : decode (ab_bc mt_Swaps_outIn) 7 = .ok (.isub, 1) := by decide +kernel
theorem d_Swaps_outIn_8 : decode (ab_bc mt_Swaps_outIn) 8 = .ok (.ireturn, 1) := by decide +kernel
-- CableKeeper$Swaps.outIn(I)I over 
theorem q_Swaps_outIn_0 {w : ab_Wd} {d n nc ns : Nat} {I : Nat → Nat → Int32} {L : Nat → Nat → Int64} {res : ab_Re} (v0 : Int32) (hc : nc ≤ res.2.2.2.2.2.1) (hs : ns ≤ res.2.2.2.2.2.2)
    (h : res = (.inl (some (.int (((ab_ushr v0 5) &&& 31) - 1))), (I, L, ab_RR, n, nc, ns))) : ab_E w d mt_Swaps_outIn 0 [.int v0] [] (I, L, ab_RR, n, nc, ns) res := by
  refine ab_iload_n (i := 0) d_Swaps_outIn_0 rfl rfl ?_
  refine ab_iconst (v := 5) d_Swaps_outIn_1 rfl ?_
  refine ab_iushr (v := (ab_ushr v0 5)) d_Swaps_outIn_2 rfl ?_
  refine ab_bipush (v := 31) d_Swaps_outIn_3 rfl ?_
  refine ab_iand d_Swaps_outIn_5 ?_
  refine ab_iconst (v := 1) d_Swaps_outIn_6 rfl ?_
  refine ab_isub d_Swaps_outIn_7 ?_
  exact ab_iret (ty := .int) d_Swaps_outIn_8 rfl rfl h
theorem d_Swaps_rowOf_0 : decode (ab_bc mt_Swaps_rowOf) 0 = .ok (.aload_n 0, 1) := by decide +kernel
theorem d_Swaps_rowOf_1 : decode (ab_bc mt_Swaps_rowOf) 1 = .ok (.getfield 9, 3) := by decide +kernel
theorem d_Swaps_rowOf_4 : decode (ab_bc mt_Swaps_rowOf) 4 = .ok (.aload_n 0, 1) := by decide +kernel
theorem d_Swaps_rowOf_5 : decode (ab_bc mt_Swaps_rowOf) 5 = .ok (.getfield 13, 3) := by decide +kernel
theorem d_Swaps_rowOf_8 : decode (ab_bc mt_Swaps_rowOf) 8 = .ok (.iconst 1, 1) := by decide +kernel
theorem d_Swaps_rowOf_9 : decode (ab_bc mt_Swaps_rowOf) 9 = .ok (.isub, 1) := by decide +kernel
theorem d_Swaps_rowOf_10 : decode (ab_bc mt_Swaps_rowOf) 10 = .ok (.iload_n 1, 1) := by decide +kernel
theorem d_Swaps_rowOf_11 : decode (ab_bc mt_Swaps_rowOf) 11 = .ok (.isub, 1) := by decide +kernel
theorem d_Swaps_rowOf_12 : decode (ab_bc mt_Swaps_rowOf) 12 = .ok (.sipush 1023, 3) := by decide +kernel
theorem d_Swaps_rowOf_15 : decode (ab_bc mt_Swaps_rowOf) 15 = .ok (.iand, 1) := by decide +kernel
theorem d_Swaps_rowOf_16 : decode (ab_bc mt_Swaps_rowOf) 16 = .ok (.iaload, 1) := by decide +kernel
theorem d_Swaps_rowOf_17 : decode (ab_bc mt_Swaps_rowOf) 17 = .ok (.ireturn, 1) := by decide +kernel
-- CableKeeper$Swaps.rowOf(I)I over kx_now_swaps
theorem q_Swaps_rowOf_0 {w : ab_Wd} {d n nc ns : Nat} {I : Nat → Nat → Int32} {L : Nat → Nat → Int64} {res : ab_Re} (v1 : Int32) (hc : nc ≤ res.2.2.2.2.2.1) (hs : ns ≤ res.2.2.2.2.2.2)
    (h : (vp_in ((((I kx_now_swaps 1) - 1) - v1) &&& 1023) 1024) ∧ res = (.inl (some (.int (I kx_now_swaps_rows ((((I kx_now_swaps 1) - 1) - v1) &&& 1023).toNatClampNeg))), (I, L, ab_RR, n, nc, ns))) : ab_E w d mt_Swaps_rowOf 0 [.ref kx_now_swaps, .int v1] [] (I, L, ab_RR, n, nc, ns) res := by
  refine ab_aload_n (i := 0) d_Swaps_rowOf_0 rfl rfl ?_
  refine ab_getR (ci := 7) (k := 0) (j := kx_now_swaps_rows) d_Swaps_rowOf_1 v_258 rfl (by decide) (by decide) rfl r_kx_now_swaps_0 ?_
  refine ab_aload_n (i := 0) d_Swaps_rowOf_4 rfl rfl ?_
  refine ab_getI (ci := 7) (k := 1) d_Swaps_rowOf_5 v_259 rfl (by decide) (by decide) rfl ?_
  refine ab_iconst (v := 1) d_Swaps_rowOf_8 rfl ?_
  refine ab_isub d_Swaps_rowOf_9 ?_
  refine ab_iload_n (i := 1) d_Swaps_rowOf_10 rfl rfl ?_
  refine ab_isub d_Swaps_rowOf_11 ?_
  refine ab_sipush (v := 1023) d_Swaps_rowOf_12 rfl ?_
  refine ab_iand d_Swaps_rowOf_15 ?_
  have g1 := h.1; have h := h.2
  refine ab_iald d_Swaps_rowOf_16 rfl rfl g1 ?_
  exact ab_iret (ty := .int) d_Swaps_rowOf_17 rfl rfl h
theorem d_Swaps_totalIn_0 : decode (ab_bc mt_Swaps_totalIn) 0 = .ok (.iload_n 0, 1) := by decide +kernel
theorem d_Swaps_totalIn_1 : decode (ab_bc mt_Swaps_totalIn) 1 = .ok (.bipush 18, 2) := by decide +kernel
theorem d_Swaps_totalIn_3 : decode (ab_bc mt_Swaps_totalIn) 3 = .ok (.iushr, 1) := by decide +kernel
theorem d_Swaps_totalIn_4 : decode (ab_bc mt_Swaps_totalIn) 4 = .ok (.ireturn, 1) := by decide +kernel
-- CableKeeper$Swaps.totalIn(I)I over 
theorem q_Swaps_totalIn_0 {w : ab_Wd} {d n nc ns : Nat} {I : Nat → Nat → Int32} {L : Nat → Nat → Int64} {res : ab_Re} (v0 : Int32) (hc : nc ≤ res.2.2.2.2.2.1) (hs : ns ≤ res.2.2.2.2.2.2)
    (h : res = (.inl (some (.int (ab_ushr v0 18))), (I, L, ab_RR, n, nc, ns))) : ab_E w d mt_Swaps_totalIn 0 [.int v0] [] (I, L, ab_RR, n, nc, ns) res := by
  refine ab_iload_n (i := 0) d_Swaps_totalIn_0 rfl rfl ?_
  refine ab_bipush (v := 18) d_Swaps_totalIn_1 rfl ?_
  refine ab_iushr (v := (ab_ushr v0 18)) d_Swaps_totalIn_3 rfl ?_
  exact ab_iret (ty := .int) d_Swaps_totalIn_4 rfl rfl h
theorem d_Swaps_whyIn_0 : decode (ab_bc mt_Swaps_whyIn) 0 = .ok (.iload_n 0, 1) := by decide +kernel
theorem d_Swaps_whyIn_1 : decode (ab_bc mt_Swaps_whyIn) 1 = .ok (.bipush 15, 2) := by decide +kernel
theorem d_Swaps_whyIn_3 : decode (ab_bc mt_Swaps_whyIn) 3 = .ok (.iushr, 1) := by decide +kernel
theorem d_Swaps_whyIn_4 : decode (ab_bc mt_Swaps_whyIn) 4 = .ok (.bipush 7, 2) := by decide +kernel
theorem d_Swaps_whyIn_6 : decode (ab_bc mt_Swaps_whyIn) 6 = .ok (.iand, 1) := by decide +kernel
theorem d_Swaps_whyIn_7 : decode (ab_bc mt_Swaps_whyIn) 7 = .ok (.ireturn, 1) := by decide +kernel
-- CableKeeper$Swaps.whyIn(I)I over 
theorem q_Swaps_whyIn_0 {w : ab_Wd} {d n nc ns : Nat} {I : Nat → Nat → Int32} {L : Nat → Nat → Int64} {res : ab_Re} (v0 : Int32) (hc : nc ≤ res.2.2.2.2.2.1) (hs : ns ≤ res.2.2.2.2.2.2)
    (h : res = (.inl (some (.int ((ab_ushr v0 15) &&& 7))), (I, L, ab_RR, n, nc, ns))) : ab_E w d mt_Swaps_whyIn 0 [.int v0] [] (I, L, ab_RR, n, nc, ns) res := by
  refine ab_iload_n (i := 0) d_Swaps_whyIn_0 rfl rfl ?_
  refine ab_bipush (v := 15) d_Swaps_whyIn_1 rfl ?_
  refine ab_iushr (v := (ab_ushr v0 15)) d_Swaps_whyIn_3 rfl ?_
  refine ab_bipush (v := 7) d_Swaps_whyIn_4 rfl ?_
  refine ab_iand d_Swaps_whyIn_6 ?_
  exact ab_iret (ty := .int) d_Swaps_whyIn_7 rfl rfl h
theorem d_Swaps_tell_0 : decode (ab_bc mt_Swaps_tell) 0 = .ok (.aload_n 0, 1) := by decide +kernel
theorem d_Swaps_tell_1 : decode (ab_bc mt_Swaps_tell) 1 = .ok (.getfield 9, 3) := by decide +kernel
theorem d_Swaps_tell_4 : decode (ab_bc mt_Swaps_tell) 4 = .ok (.aload_n 0, 1) := by decide +kernel
theorem d_Swaps_tell_5 : decode (ab_bc mt_Swaps_tell) 5 = .ok (.getfield 13, 3) := by decide +kernel
theorem d_Swaps_tell_8 : decode (ab_bc mt_Swaps_tell) 8 = .ok (.sipush 1023, 3) := by decide +kernel
theorem d_Swaps_tell_11 : decode (ab_bc mt_Swaps_tell) 11 = .ok (.iand, 1) := by decide +kernel
theorem d_Swaps_tell_12 : decode (ab_bc mt_Swaps_tell) 12 = .ok (.iload 5, 2) := by decide +kernel
theorem d_Swaps_tell_14 : decode (ab_bc mt_Swaps_tell) 14 = .ok (.bipush 18, 2) := by decide +kernel
theorem d_Swaps_tell_16 : decode (ab_bc mt_Swaps_tell) 16 = .ok (.ishl, 1) := by decide +kernel
theorem d_Swaps_tell_17 : decode (ab_bc mt_Swaps_tell) 17 = .ok (.iload_n 1, 1) := by decide +kernel
theorem d_Swaps_tell_18 : decode (ab_bc mt_Swaps_tell) 18 = .ok (.bipush 15, 2) := by decide +kernel
theorem d_Swaps_tell_20 : decode (ab_bc mt_Swaps_tell) 20 = .ok (.ishl, 1) := by decide +kernel
theorem d_Swaps_tell_21 : decode (ab_bc mt_Swaps_tell) 21 = .ok (.ior, 1) := by decide +kernel
theorem d_Swaps_tell_22 : decode (ab_bc mt_Swaps_tell) 22 = .ok (.iload_n 2, 1) := by decide +kernel
theorem d_Swaps_tell_23 : decode (ab_bc mt_Swaps_tell) 23 = .ok (.bipush 10, 2) := by decide +kernel
theorem d_Swaps_tell_25 : decode (ab_bc mt_Swaps_tell) 25 = .ok (.ishl, 1) := by decide +kernel
theorem d_Swaps_tell_26 : decode (ab_bc mt_Swaps_tell) 26 = .ok (.ior, 1) := by decide +kernel
theorem d_Swaps_tell_27 : decode (ab_bc mt_Swaps_tell) 27 = .ok (.iload_n 3, 1) := by decide +kernel
theorem d_Swaps_tell_28 : decode (ab_bc mt_Swaps_tell) 28 = .ok (.iconst 1, 1) := by decide +kernel
theorem d_Swaps_tell_29 : decode (ab_bc mt_Swaps_tell) 29 = .ok (.iadd, 1) := by decide +kernel
theorem d_Swaps_tell_30 : decode (ab_bc mt_Swaps_tell) 30 = .ok (.iconst 5, 1) := by decide +kernel
theorem d_Swaps_tell_31 : decode (ab_bc mt_Swaps_tell) 31 = .ok (.ishl, 1) := by decide +kernel
theorem d_Swaps_tell_32 : decode (ab_bc mt_Swaps_tell) 32 = .ok (.ior, 1) := by decide +kernel
theorem d_Swaps_tell_33 : decode (ab_bc mt_Swaps_tell) 33 = .ok (.iload 4, 2) := by decide +kernel
theorem d_Swaps_tell_35 : decode (ab_bc mt_Swaps_tell) 35 = .ok (.iconst 1, 1) := by decide +kernel
theorem d_Swaps_tell_36 : decode (ab_bc mt_Swaps_tell) 36 = .ok (.iadd, 1) := by decide +kernel
theorem d_Swaps_tell_37 : decode (ab_bc mt_Swaps_tell) 37 = .ok (.ior, 1) := by decide +kernel
theorem d_Swaps_tell_38 : decode (ab_bc mt_Swaps_tell) 38 = .ok (.iastore, 1) := by decide +kernel
theorem d_Swaps_tell_39 : decode (ab_bc mt_Swaps_tell) 39 = .ok (.aload_n 0, 1) := by decide +kernel
theorem d_Swaps_tell_40 : decode (ab_bc mt_Swaps_tell) 40 = .ok (.dup, 1) := by decide +kernel
theorem d_Swaps_tell_41 : decode (ab_bc mt_Swaps_tell) 41 = .ok (.getfield 13, 3) := by decide +kernel
theorem d_Swaps_tell_44 : decode (ab_bc mt_Swaps_tell) 44 = .ok (.iconst 1, 1) := by decide +kernel
theorem d_Swaps_tell_45 : decode (ab_bc mt_Swaps_tell) 45 = .ok (.iadd, 1) := by decide +kernel
theorem d_Swaps_tell_46 : decode (ab_bc mt_Swaps_tell) 46 = .ok (.putfield 13, 3) := by decide +kernel
theorem d_Swaps_tell_49 : decode (ab_bc mt_Swaps_tell) 49 = .ok (.return_, 1) := by decide +kernel
-- CableKeeper$Swaps.tell(IIIII)V over kx_now_swaps
theorem q_Swaps_tell_0 {w : ab_Wd} {d n nc ns : Nat} {I : Nat → Nat → Int32} {L : Nat → Nat → Int64} {res : ab_Re} (v1 : Int32) (v2 : Int32) (v3 : Int32) (v4 : Int32) (v5 : Int32) (hc : nc ≤ res.2.2.2.2.2.1) (hs : ns ≤ res.2.2.2.2.2.2)
    (h : (vp_in ((I kx_now_swaps 1) &&& 1023) 1024) ∧ res = (.inl none, ((ab_up (ab_up I kx_now_swaps_rows ((I kx_now_swaps 1) &&& 1023).toNatClampNeg (((((v5 <<< ((18 : Int32) &&& 31)) ||| (v1 <<< ((15 : Int32) &&& 31))) ||| (v2 <<< ((10 : Int32) &&& 31))) ||| ((v3 + 1) <<< ((5 : Int32) &&& 31))) ||| (v4 + 1))) kx_now_swaps 1 ((I kx_now_swaps 1) + 1)), L, ab_RR, n, nc, ns))) : ab_E w d mt_Swaps_tell 0 [.ref kx_now_swaps, .int v1, .int v2, .int v3, .int v4, .int v5] [] (I, L, ab_RR, n, nc, ns) res := by
  refine ab_aload_n (i := 0) d_Swaps_tell_0 rfl rfl ?_
  refine ab_getR (ci := 7) (k := 0) (j := kx_now_swaps_rows) d_Swaps_tell_1 v_258 rfl (by decide) (by decide) rfl r_kx_now_swaps_0 ?_
  refine ab_aload_n (i := 0) d_Swaps_tell_4 rfl rfl ?_
  refine ab_getI (ci := 7) (k := 1) d_Swaps_tell_5 v_259 rfl (by decide) (by decide) rfl ?_
  refine ab_sipush (v := 1023) d_Swaps_tell_8 rfl ?_
  refine ab_iand d_Swaps_tell_11 ?_
  refine ab_iload (i := 5) d_Swaps_tell_12 rfl ?_
  refine ab_bipush (v := 18) d_Swaps_tell_14 rfl ?_
  refine ab_ishl d_Swaps_tell_16 ?_
  refine ab_iload_n (i := 1) d_Swaps_tell_17 rfl rfl ?_
  refine ab_bipush (v := 15) d_Swaps_tell_18 rfl ?_
  refine ab_ishl d_Swaps_tell_20 ?_
  refine ab_ior d_Swaps_tell_21 ?_
  refine ab_iload_n (i := 2) d_Swaps_tell_22 rfl rfl ?_
  refine ab_bipush (v := 10) d_Swaps_tell_23 rfl ?_
  refine ab_ishl d_Swaps_tell_25 ?_
  refine ab_ior d_Swaps_tell_26 ?_
  refine ab_iload_n (i := 3) d_Swaps_tell_27 rfl rfl ?_
  refine ab_iconst (v := 1) d_Swaps_tell_28 rfl ?_
  refine ab_iadd d_Swaps_tell_29 ?_
  refine ab_iconst (v := 5) d_Swaps_tell_30 rfl ?_
  refine ab_ishl d_Swaps_tell_31 ?_
  refine ab_ior d_Swaps_tell_32 ?_
  refine ab_iload (i := 4) d_Swaps_tell_33 rfl ?_
  refine ab_iconst (v := 1) d_Swaps_tell_35 rfl ?_
  refine ab_iadd d_Swaps_tell_36 ?_
  refine ab_ior d_Swaps_tell_37 ?_
  have g1 := h.1; have h := h.2
  refine ab_iast d_Swaps_tell_38 rfl rfl g1 ?_
  refine ab_aload_n (i := 0) d_Swaps_tell_39 rfl rfl ?_
  refine ab_dupr d_Swaps_tell_40 ?_
  refine ab_getI (ci := 7) (k := 1) d_Swaps_tell_41 v_259 rfl (by decide) (by decide) rfl ?_
  refine ab_iconst (v := 1) d_Swaps_tell_44 rfl ?_
  refine ab_iadd d_Swaps_tell_45 ?_
  refine ab_putI (ci := 7) (k := 1) d_Swaps_tell_46 v_259 rfl (by decide) (by decide) rfl (Or.inl rfl) rfl rfl ?_
  exact ab_vret d_Swaps_tell_49 rfl h
theorem d_Swaps_copy_0 : decode (ab_bc mt_Swaps_copy) 0 = .ok (.aload_n 0, 1) := by decide +kernel
theorem d_Swaps_copy_1 : decode (ab_bc mt_Swaps_copy) 1 = .ok (.aload_n 1, 1) := by decide +kernel
theorem d_Swaps_copy_2 : decode (ab_bc mt_Swaps_copy) 2 = .ok (.getfield 13, 3) := by decide +kernel
theorem d_Swaps_copy_5 : decode (ab_bc mt_Swaps_copy) 5 = .ok (.putfield 13, 3) := by decide +kernel
theorem d_Swaps_copy_8 : decode (ab_bc mt_Swaps_copy) 8 = .ok (.aload_n 1, 1) := by decide +kernel
theorem d_Swaps_copy_9 : decode (ab_bc mt_Swaps_copy) 9 = .ok (.getfield 9, 3) := by decide +kernel
theorem d_Swaps_copy_12 : decode (ab_bc mt_Swaps_copy) 12 = .ok (.iconst 0, 1) := by decide +kernel
theorem d_Swaps_copy_13 : decode (ab_bc mt_Swaps_copy) 13 = .ok (.aload_n 0, 1) := by decide +kernel
theorem d_Swaps_copy_14 : decode (ab_bc mt_Swaps_copy) 14 = .ok (.getfield 9, 3) := by decide +kernel
theorem d_Swaps_copy_17 : decode (ab_bc mt_Swaps_copy) 17 = .ok (.iconst 0, 1) := by decide +kernel
theorem d_Swaps_copy_18 : decode (ab_bc mt_Swaps_copy) 18 = .ok (.sipush 1024, 3) := by decide +kernel
theorem d_Swaps_copy_21 : decode (ab_bc mt_Swaps_copy) 21 = .ok (.invokestatic 17, 3) := by decide +kernel
theorem d_Swaps_copy_24 : decode (ab_bc mt_Swaps_copy) 24 = .ok (.return_, 1) := by decide +kernel
-- CableKeeper$Swaps.copy(LCableKeeper$Swaps;)V over kx_kept_swaps, kx_now_swaps
theorem q_Swaps_copy_0_0 {w : ab_Wd} {d n nc ns : Nat} {I : Nat → Nat → Int32} {L : Nat → Nat → Int64} {res : ab_Re}  (hc : nc ≤ res.2.2.2.2.2.1) (hs : ns ≤ res.2.2.2.2.2.2)
    (h : res = (.inl none, ((ab_row (ab_up I kx_kept_swaps 1 (I kx_now_swaps 1)) kx_kept_swaps_rows (va_cpy (I kx_now_swaps_rows) (I kx_kept_swaps_rows) 0 0 1024)), L, ab_RR, n, nc, ns))) : ab_E w (d + 1) mt_Swaps_copy 0 [.ref kx_kept_swaps, .ref kx_now_swaps] [] (I, L, ab_RR, n, nc, ns) res := by
  refine ab_aload_n (i := 0) d_Swaps_copy_0 rfl rfl ?_
  refine ab_aload_n (i := 1) d_Swaps_copy_1 rfl rfl ?_
  refine ab_getI (ci := 7) (k := 1) d_Swaps_copy_2 v_259 rfl (by decide) (by decide) rfl ?_
  refine ab_putI (ci := 7) (k := 1) d_Swaps_copy_5 v_259 rfl (by decide) (by decide) rfl (Or.inl rfl) rfl rfl ?_
  refine ab_aload_n (i := 1) d_Swaps_copy_8 rfl rfl ?_
  refine ab_getR (ci := 7) (k := 0) (j := kx_now_swaps_rows) d_Swaps_copy_9 v_258 rfl (by decide) (by decide) rfl r_kx_now_swaps_0 ?_
  refine ab_iconst (v := 0) d_Swaps_copy_12 rfl ?_
  refine ab_aload_n (i := 0) d_Swaps_copy_13 rfl rfl ?_
  refine ab_getR (ci := 7) (k := 0) (j := kx_kept_swaps_rows) d_Swaps_copy_14 v_258 rfl (by decide) (by decide) rfl r_kx_kept_swaps_0 ?_
  refine ab_iconst (v := 0) d_Swaps_copy_17 rfl ?_
  refine ab_sipush (v := 1024) d_Swaps_copy_18 rfl ?_
  refine ab_copy d_Swaps_copy_21 v_680 v_562 v_561 v_161 rfl rfl rfl rfl (by decide) (by decide) (by decide) (by decide) (by decide) (Nat.succ_le_succ (Nat.zero_le _)) (Nat.le_of_ble_eq_true rfl) ?_
  exact ab_vret d_Swaps_copy_24 rfl h
-- CableKeeper$Swaps.copy(LCableKeeper$Swaps;)V over kx_now_swaps, kx_kept_swaps
theorem q_Swaps_copy_1_0 {w : ab_Wd} {d n nc ns : Nat} {I : Nat → Nat → Int32} {L : Nat → Nat → Int64} {res : ab_Re}  (hc : nc ≤ res.2.2.2.2.2.1) (hs : ns ≤ res.2.2.2.2.2.2)
    (h : res = (.inl none, ((ab_row (ab_up I kx_now_swaps 1 (I kx_kept_swaps 1)) kx_now_swaps_rows (va_cpy (I kx_kept_swaps_rows) (I kx_now_swaps_rows) 0 0 1024)), L, ab_RR, n, nc, ns))) : ab_E w (d + 1) mt_Swaps_copy 0 [.ref kx_now_swaps, .ref kx_kept_swaps] [] (I, L, ab_RR, n, nc, ns) res := by
  refine ab_aload_n (i := 0) d_Swaps_copy_0 rfl rfl ?_
  refine ab_aload_n (i := 1) d_Swaps_copy_1 rfl rfl ?_
  refine ab_getI (ci := 7) (k := 1) d_Swaps_copy_2 v_259 rfl (by decide) (by decide) rfl ?_
  refine ab_putI (ci := 7) (k := 1) d_Swaps_copy_5 v_259 rfl (by decide) (by decide) rfl (Or.inl rfl) rfl rfl ?_
  refine ab_aload_n (i := 1) d_Swaps_copy_8 rfl rfl ?_
  refine ab_getR (ci := 7) (k := 0) (j := kx_kept_swaps_rows) d_Swaps_copy_9 v_258 rfl (by decide) (by decide) rfl r_kx_kept_swaps_0 ?_
  refine ab_iconst (v := 0) d_Swaps_copy_12 rfl ?_
  refine ab_aload_n (i := 0) d_Swaps_copy_13 rfl rfl ?_
  refine ab_getR (ci := 7) (k := 0) (j := kx_now_swaps_rows) d_Swaps_copy_14 v_258 rfl (by decide) (by decide) rfl r_kx_now_swaps_0 ?_
  refine ab_iconst (v := 0) d_Swaps_copy_17 rfl ?_
  refine ab_sipush (v := 1024) d_Swaps_copy_18 rfl ?_
  refine ab_copy d_Swaps_copy_21 v_680 v_562 v_561 v_161 rfl rfl rfl rfl (by decide) (by decide) (by decide) (by decide) (by decide) (Nat.succ_le_succ (Nat.zero_le _)) (Nat.le_of_ble_eq_true rfl) ?_
  exact ab_vret d_Swaps_copy_24 rfl h
