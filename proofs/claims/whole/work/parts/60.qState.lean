theorem d_State_begin_0 : decode (ab_bc mt_State_begin) 0 = .ok (.aload_n 0, 1) := by decide +kernel
theorem d_State_begin_1 : decode (ab_bc mt_State_begin) 1 = .ok (.getfield 10, 3) := by decide +kernel
theorem d_State_begin_4 : decode (ab_bc mt_State_begin) 4 = .ok (.aload_n 1, 1) := by decide +kernel
theorem d_State_begin_5 : decode (ab_bc mt_State_begin) 5 = .ok (.invokevirtual 44, 3) := by decide +kernel
theorem d_State_begin_8 : decode (ab_bc mt_State_begin) 8 = .ok (.aload_n 0, 1) := by decide +kernel
theorem d_State_begin_9 : decode (ab_bc mt_State_begin) 9 = .ok (.getfield 19, 3) := by decide +kernel
theorem d_State_begin_12 : decode (ab_bc mt_State_begin) 12 = .ok (.iconst 0, 1) := by decide +kernel
theorem d_State_begin_13 : decode (ab_bc mt_State_begin) 13 = .ok (.putfield 48, 3) := by decide +kernel
theorem d_State_begin_16 : decode (ab_bc mt_State_begin) 16 = .ok (.aload_n 0, 1) := by decide +kernel
theorem d_State_begin_17 : decode (ab_bc mt_State_begin) 17 = .ok (.getfield 26, 3) := by decide +kernel
theorem d_State_begin_20 : decode (ab_bc mt_State_begin) 20 = .ok (.invokevirtual 51, 3) := by decide +kernel
theorem d_State_begin_23 : decode (ab_bc mt_State_begin) 23 = .ok (.aload_n 0, 1) := by decide +kernel
theorem d_State_begin_24 : decode (ab_bc mt_State_begin) 24 = .ok (.invokevirtual 54, 3) := by decide +kernel
theorem d_State_begin_27 : decode (ab_bc mt_State_begin) 27 = .ok (.return_, 1) := by decide +kernel
-- CableKeeper$State.begin(LCableKeeper$Cables;)V over kx_now, kx_trial
theorem q_State_begin_0 {w : ab_Wd} {d n nc ns : Nat} {I : Nat → Nat → Int32} {L : Nat → Nat → Int64} {res : ab_Re}  (hc : nc ≤ res.2.2.2.2.2.1) (hs : ns ≤ res.2.2.2.2.2.2)
    (h : ∃ (I2 : Nat → Nat → Int32), ab_C w d mt_Cables_copy [.ref kx_now_cables, .ref kx_trial] (I, L, ab_RR, n, nc, ns) (.inl none, (I2, L, ab_RR, n, nc, ns)) ∧ ∃ (I4 : Nat → Nat → Int32), ab_C w d mt_Acts_clear [.ref kx_now_acts] ((ab_up I2 kx_now_swaps 1 0), L, ab_RR, n, nc, ns) (.inl none, (I4, L, ab_RR, n, nc, ns)) ∧ ∃ (I6 : Nat → Nat → Int32), ab_C w d mt_State_forgetNoted [.ref kx_now] (I4, L, ab_RR, n, nc, ns) (.inl none, (I6, L, ab_RR, n, nc, ns)) ∧ res = (.inl none, (I6, L, ab_RR, n, nc, ns))) : ab_E w (d + 1) mt_State_begin 0 [.ref kx_now, .ref kx_trial] [] (I, L, ab_RR, n, nc, ns) res := by
  refine ab_aload_n (i := 0) d_State_begin_0 rfl rfl ?_
  refine ab_getR (ci := 6) (k := 0) (j := kx_now_cables) d_State_begin_1 v_293 rfl (by decide) (by decide) rfl r_kx_now_0 ?_
  refine ab_aload_n (i := 1) d_State_begin_4 rfl rfl ?_
  obtain ⟨I2, hC, h⟩ := h
  refine ab_callV (me2 := mt_Cables_copy) (b := kx_now_cables) (as := [.ref kx_trial]) (st := []) (rv := none) (M2 := (I2, L, ab_RR, n, nc, ns)) d_State_begin_5 ce_Cables_copy v_671 v_672 v_673 (by decide) rfl (Nat.le_of_ble_eq_true rfl) hC (Nat.le_refl _) (Nat.le_refl _) hc hs (fun j h9 => by cases h9) (fun _ _ => rfl) ?_
  show ab_E w (d + 1) mt_State_begin 8 [.ref kx_now, .ref kx_trial] [] (I2, L, ab_RR, n, nc, ns) res
  refine ab_aload_n (i := 0) d_State_begin_8 rfl rfl ?_
  refine ab_getR (ci := 6) (k := 1) (j := kx_now_swaps) d_State_begin_9 v_295 rfl (by decide) (by decide) rfl r_kx_now_1 ?_
  refine ab_iconst (v := 0) d_State_begin_12 rfl ?_
  refine ab_putI (ci := 7) (k := 1) d_State_begin_13 v_260 rfl (by decide) (by decide) rfl (Or.inl rfl) rfl rfl ?_
  refine ab_aload_n (i := 0) d_State_begin_16 rfl rfl ?_
  refine ab_getR (ci := 6) (k := 2) (j := kx_now_acts) d_State_begin_17 v_297 rfl (by decide) (by decide) rfl r_kx_now_2 ?_
  obtain ⟨I4, hC, h⟩ := h
  refine ab_callV (me2 := mt_Acts_clear) (b := kx_now_acts) (as := []) (st := []) (rv := none) (M2 := (I4, L, ab_RR, n, nc, ns)) d_State_begin_20 ce_Acts_clear v_914 v_915 v_916 (by decide) rfl (Nat.le_of_ble_eq_true rfl) hC (Nat.le_refl _) (Nat.le_refl _) hc hs (fun j h9 => by cases h9) (fun _ _ => rfl) ?_
  show ab_E w (d + 1) mt_State_begin 23 [.ref kx_now, .ref kx_trial] [] (I4, L, ab_RR, n, nc, ns) res
  refine ab_aload_n (i := 0) d_State_begin_23 rfl rfl ?_
  obtain ⟨I6, hC, h⟩ := h
  refine ab_callV (me2 := mt_State_forgetNoted) (b := kx_now) (as := []) (st := []) (rv := none) (M2 := (I6, L, ab_RR, n, nc, ns)) d_State_begin_24 ce_State_forgetNoted v_918 v_660 v_661 (by decide) rfl (Nat.le_of_ble_eq_true rfl) hC (Nat.le_refl _) (Nat.le_refl _) hc hs (fun j h9 => by cases h9) (fun _ _ => rfl) ?_
  show ab_E w (d + 1) mt_State_begin 27 [.ref kx_now, .ref kx_trial] [] (I6, L, ab_RR, n, nc, ns) res
  exact ab_vret d_State_begin_27 rfl h
theorem d_State_keepAct_0 : decode (ab_bc mt_State_keepAct) 0 = .ok (.aload_n 0, 1) := by decide +kernel
theorem d_State_keepAct_1 : decode (ab_bc mt_State_keepAct) 1 = .ok (.getfield 26, 3) := by decide +kernel
theorem d_State_keepAct_4 : decode (ab_bc mt_State_keepAct) 4 = .ok (.aload_n 0, 1) := by decide +kernel
theorem d_State_keepAct_5 : decode (ab_bc mt_State_keepAct) 5 = .ok (.getfield 10, 3) := by decide +kernel
theorem d_State_keepAct_8 : decode (ab_bc mt_State_keepAct) 8 = .ok (.aload_n 0, 1) := by decide +kernel
theorem d_State_keepAct_9 : decode (ab_bc mt_State_keepAct) 9 = .ok (.getfield 19, 3) := by decide +kernel
theorem d_State_keepAct_12 : decode (ab_bc mt_State_keepAct) 12 = .ok (.getfield 48, 3) := by decide +kernel
theorem d_State_keepAct_15 : decode (ab_bc mt_State_keepAct) 15 = .ok (.invokevirtual 57, 3) := by decide +kernel
theorem d_State_keepAct_18 : decode (ab_bc mt_State_keepAct) 18 = .ok (.return_, 1) := by decide +kernel
-- CableKeeper$State.keepAct()V over kx_now
theorem q_State_keepAct_0 {w : ab_Wd} {d n nc ns : Nat} {I : Nat → Nat → Int32} {L : Nat → Nat → Int64} {res : ab_Re}  (hc : nc ≤ res.2.2.2.2.2.1) (hs : ns ≤ res.2.2.2.2.2.2)
    (h : ∃ (I2 : Nat → Nat → Int32), ab_C w d mt_Acts_keep [.ref kx_now_acts, .ref kx_now_cables, .int (I kx_now_swaps 1)] (I, L, ab_RR, n, nc, ns) (.inl none, (I2, L, ab_RR, n, nc, ns)) ∧ res = (.inl none, (I2, L, ab_RR, n, nc, ns))) : ab_E w (d + 1) mt_State_keepAct 0 [.ref kx_now] [] (I, L, ab_RR, n, nc, ns) res := by
  refine ab_aload_n (i := 0) d_State_keepAct_0 rfl rfl ?_
  refine ab_getR (ci := 6) (k := 2) (j := kx_now_acts) d_State_keepAct_1 v_297 rfl (by decide) (by decide) rfl r_kx_now_2 ?_
  refine ab_aload_n (i := 0) d_State_keepAct_4 rfl rfl ?_
  refine ab_getR (ci := 6) (k := 0) (j := kx_now_cables) d_State_keepAct_5 v_293 rfl (by decide) (by decide) rfl r_kx_now_0 ?_
  refine ab_aload_n (i := 0) d_State_keepAct_8 rfl rfl ?_
  refine ab_getR (ci := 6) (k := 1) (j := kx_now_swaps) d_State_keepAct_9 v_295 rfl (by decide) (by decide) rfl r_kx_now_1 ?_
  refine ab_getI (ci := 7) (k := 1) d_State_keepAct_12 v_260 rfl (by decide) (by decide) rfl ?_
  obtain ⟨I2, hC, h⟩ := h
  refine ab_callV (me2 := mt_Acts_keep) (b := kx_now_acts) (as := [.ref kx_now_cables, .int (I kx_now_swaps 1)]) (st := []) (rv := none) (M2 := (I2, L, ab_RR, n, nc, ns)) d_State_keepAct_15 ce_Acts_keep v_582 v_583 v_584 (by decide) rfl (Nat.le_of_ble_eq_true rfl) hC (Nat.le_refl _) (Nat.le_refl _) hc hs (fun j h9 => by cases h9) (fun _ _ => rfl) ?_
  show ab_E w (d + 1) mt_State_keepAct 18 [.ref kx_now] [] (I2, L, ab_RR, n, nc, ns) res
  exact ab_vret d_State_keepAct_18 rfl h
theorem d_State_fitsNoted_0 : decode (ab_bc mt_State_fitsNoted) 0 = .ok (.iload_n 1, 1) := by decide +kernel
theorem d_State_fitsNoted_1 : decode (ab_bc mt_State_fitsNoted) 1 = .ok (.aload_n 0, 1) := by decide +kernel
theorem d_State_fitsNoted_2 : decode (ab_bc mt_State_fitsNoted) 2 = .ok (.getfield 34, 3) := by decide +kernel
theorem d_State_fitsNoted_5 : decode (ab_bc mt_State_fitsNoted) 5 = .ok (.iand, 1) := by decide +kernel
theorem d_State_fitsNoted_6 : decode (ab_bc mt_State_fitsNoted) 6 = .ok (.aload_n 0, 1) := by decide +kernel
theorem d_State_fitsNoted_7 : decode (ab_bc mt_State_fitsNoted) 7 = .ok (.getfield 34, 3) := by decide +kernel
theorem d_State_fitsNoted_10 : decode (ab_bc mt_State_fitsNoted) 10 = .ok (.if_icmp .ne 16, 3) := by decide +kernel
theorem d_State_fitsNoted_13 : decode (ab_bc mt_State_fitsNoted) 13 = .ok (.iload_n 1, 1) := by decide +kernel
theorem d_State_fitsNoted_14 : decode (ab_bc mt_State_fitsNoted) 14 = .ok (.aload_n 0, 1) := by decide +kernel
theorem d_State_fitsNoted_15 : decode (ab_bc mt_State_fitsNoted) 15 = .ok (.getfield 37, 3) := by decide +kernel
theorem d_State_fitsNoted_18 : decode (ab_bc mt_State_fitsNoted) 18 = .ok (.iand, 1) := by decide +kernel
theorem d_State_fitsNoted_19 : decode (ab_bc mt_State_fitsNoted) 19 = .ok (.ifCond .ne 7, 3) := by decide +kernel
theorem d_State_fitsNoted_22 : decode (ab_bc mt_State_fitsNoted) 22 = .ok (.iconst 1, 1) := by decide +kernel
theorem d_State_fitsNoted_23 : decode (ab_bc mt_State_fitsNoted) 23 = .ok (.goto 4, 3) := by decide +kernel
theorem d_State_fitsNoted_26 : decode (ab_bc mt_State_fitsNoted) 26 = .ok (.iconst 0, 1) := by decide +kernel
theorem d_State_fitsNoted_27 : decode (ab_bc mt_State_fitsNoted) 27 = .ok (.ireturn, 1) := by decide +kernel
-- CableKeeper$State.fitsNoted(I)Z over kx_now
theorem q_State_fitsNoted_0 {w : ab_Wd} {d n nc ns : Nat} {I : Nat → Nat → Int32} {L : Nat → Nat → Int64} {res : ab_Re} (v1 : Int32) (hc : nc ≤ res.2.2.2.2.2.1) (hs : ns ≤ res.2.2.2.2.2.2)
    (h : ((¬ (v1 &&& (I kx_now 4)) = (I kx_now 4) → (ab_E w d mt_State_fitsNoted 26 [.ref kx_now, .int v1] [] (I, L, ab_RR, n, nc, ns) res)) ∧ ((v1 &&& (I kx_now 4)) = (I kx_now 4) → ((¬ (v1 &&& (I kx_now 5)) = 0 → (ab_E w d mt_State_fitsNoted 26 [.ref kx_now, .int v1] [] (I, L, ab_RR, n, nc, ns) res)) ∧ ((v1 &&& (I kx_now 5)) = 0 → (ab_E w d mt_State_fitsNoted 27 [.ref kx_now, .int v1] [.int 1] (I, L, ab_RR, n, nc, ns) res)))))) : ab_E w d mt_State_fitsNoted 0 [.ref kx_now, .int v1] [] (I, L, ab_RR, n, nc, ns) res := by
  refine ab_iload_n (i := 1) d_State_fitsNoted_0 rfl rfl ?_
  refine ab_aload_n (i := 0) d_State_fitsNoted_1 rfl rfl ?_
  refine ab_getI (ci := 6) (k := 4) d_State_fitsNoted_2 v_301 rfl (by decide) (by decide) rfl ?_
  refine ab_iand d_State_fitsNoted_5 ?_
  refine ab_aload_n (i := 0) d_State_fitsNoted_6 rfl rfl ?_
  refine ab_getI (ci := 6) (k := 4) d_State_fitsNoted_7 v_301 rfl (by decide) (by decide) rfl ?_
  refine ab_icmp_ne (tgt := 26) d_State_fitsNoted_10 (by decide) (fun c1 => ?_) (fun c1 => ?_)
  · have h := h.1 c1
    exact h
  · have h := h.2 c1
    refine ab_iload_n (i := 1) d_State_fitsNoted_13 rfl rfl ?_
    refine ab_aload_n (i := 0) d_State_fitsNoted_14 rfl rfl ?_
    refine ab_getI (ci := 6) (k := 5) d_State_fitsNoted_15 v_303 rfl (by decide) (by decide) rfl ?_
    refine ab_iand d_State_fitsNoted_18 ?_
    refine ab_if_ne (tgt := 26) d_State_fitsNoted_19 (by decide) (fun c2 => ?_) (fun c2 => ?_)
    · have h := h.1 c2
      exact h
    · have h := h.2 c2
      refine ab_iconst (v := 1) d_State_fitsNoted_22 rfl ?_
      refine ab_goto (tgt := 27) d_State_fitsNoted_23 (by decide) ?_
      exact h
theorem q_State_fitsNoted_26 {w : ab_Wd} {d n nc ns : Nat} {I : Nat → Nat → Int32} {L : Nat → Nat → Int64} {res : ab_Re} (v1 : Int32) (hc : nc ≤ res.2.2.2.2.2.1) (hs : ns ≤ res.2.2.2.2.2.2)
    (h : ab_E w d mt_State_fitsNoted 27 [.ref kx_now, .int v1] [.int 0] (I, L, ab_RR, n, nc, ns) res) : ab_E w d mt_State_fitsNoted 26 [.ref kx_now, .int v1] [] (I, L, ab_RR, n, nc, ns) res := by
  refine ab_iconst (v := 0) d_State_fitsNoted_26 rfl ?_
  exact h
theorem q_State_fitsNoted_27 {w : ab_Wd} {d n nc ns : Nat} {I : Nat → Nat → Int32} {L : Nat → Nat → Int64} {res : ab_Re} (v1 : Int32) (s0 : Int32) (hc : nc ≤ res.2.2.2.2.2.1) (hs : ns ≤ res.2.2.2.2.2.2)
    (h : (narrow .boolean (.int s0) = .int s0) ∧ res = (.inl (some (.int s0)), (I, L, ab_RR, n, nc, ns))) : ab_E w d mt_State_fitsNoted 27 [.ref kx_now, .int v1] [.int s0] (I, L, ab_RR, n, nc, ns) res := by
  have g := h.1; have h := h.2
  exact ab_iret (ty := .boolean) d_State_fitsNoted_27 rfl g h
theorem d_State_forgetNoted_0 : decode (ab_bc mt_State_forgetNoted) 0 = .ok (.aload_n 0, 1) := by decide +kernel
theorem d_State_forgetNoted_1 : decode (ab_bc mt_State_forgetNoted) 1 = .ok (.iconst 0, 1) := by decide +kernel
theorem d_State_forgetNoted_2 : decode (ab_bc mt_State_forgetNoted) 2 = .ok (.putfield 30, 3) := by decide +kernel
theorem d_State_forgetNoted_5 : decode (ab_bc mt_State_forgetNoted) 5 = .ok (.aload_n 0, 1) := by decide +kernel
theorem d_State_forgetNoted_6 : decode (ab_bc mt_State_forgetNoted) 6 = .ok (.iconst 0, 1) := by decide +kernel
theorem d_State_forgetNoted_7 : decode (ab_bc mt_State_forgetNoted) 7 = .ok (.putfield 34, 3) := by decide +kernel
theorem d_State_forgetNoted_10 : decode (ab_bc mt_State_forgetNoted) 10 = .ok (.aload_n 0, 1) := by decide +kernel
theorem d_State_forgetNoted_11 : decode (ab_bc mt_State_forgetNoted) 11 = .ok (.iconst 0, 1) := by decide +kernel
theorem d_State_forgetNoted_12 : decode (ab_bc mt_State_forgetNoted) 12 = .ok (.putfield 37, 3) := by decide +kernel
theorem d_State_forgetNoted_15 : decode (ab_bc mt_State_forgetNoted) 15 = .ok (.return_, 1) := by decide +kernel
-- CableKeeper$State.forgetNoted()V over kx_now
theorem q_State_forgetNoted_0 {w : ab_Wd} {d n nc ns : Nat} {I : Nat → Nat → Int32} {L : Nat → Nat → Int64} {res : ab_Re}  (hc : nc ≤ res.2.2.2.2.2.1) (hs : ns ≤ res.2.2.2.2.2.2)
    (h : res = (.inl none, ((ab_up (ab_up (ab_up I kx_now 3 0) kx_now 4 0) kx_now 5 0), L, ab_RR, n, nc, ns))) : ab_E w d mt_State_forgetNoted 0 [.ref kx_now] [] (I, L, ab_RR, n, nc, ns) res := by
  refine ab_aload_n (i := 0) d_State_forgetNoted_0 rfl rfl ?_
  refine ab_iconst (v := 0) d_State_forgetNoted_1 rfl ?_
  refine ab_putI (ci := 6) (k := 3) d_State_forgetNoted_2 v_299 rfl (by decide) (by decide) rfl (Or.inl rfl) rfl rfl ?_
  refine ab_aload_n (i := 0) d_State_forgetNoted_5 rfl rfl ?_
  refine ab_iconst (v := 0) d_State_forgetNoted_6 rfl ?_
  refine ab_putI (ci := 6) (k := 4) d_State_forgetNoted_7 v_301 rfl (by decide) (by decide) rfl (Or.inl rfl) rfl rfl ?_
  refine ab_aload_n (i := 0) d_State_forgetNoted_10 rfl rfl ?_
  refine ab_iconst (v := 0) d_State_forgetNoted_11 rfl ?_
  refine ab_putI (ci := 6) (k := 5) d_State_forgetNoted_12 v_303 rfl (by decide) (by decide) rfl (Or.inl rfl) rfl rfl ?_
  exact ab_vret d_State_forgetNoted_15 rfl h
theorem d_State_copy_0 : decode (ab_bc mt_State_copy) 0 = .ok (.aload_n 0, 1) := by decide +kernel
theorem d_State_copy_1 : decode (ab_bc mt_State_copy) 1 = .ok (.getfield 10, 3) := by decide +kernel
theorem d_State_copy_4 : decode (ab_bc mt_State_copy) 4 = .ok (.aload_n 1, 1) := by decide +kernel
theorem d_State_copy_5 : decode (ab_bc mt_State_copy) 5 = .ok (.getfield 10, 3) := by decide +kernel
theorem d_State_copy_8 : decode (ab_bc mt_State_copy) 8 = .ok (.invokevirtual 44, 3) := by decide +kernel
theorem d_State_copy_11 : decode (ab_bc mt_State_copy) 11 = .ok (.aload_n 0, 1) := by decide +kernel
theorem d_State_copy_12 : decode (ab_bc mt_State_copy) 12 = .ok (.getfield 19, 3) := by decide +kernel
theorem d_State_copy_15 : decode (ab_bc mt_State_copy) 15 = .ok (.aload_n 1, 1) := by decide +kernel
theorem d_State_copy_16 : decode (ab_bc mt_State_copy) 16 = .ok (.getfield 19, 3) := by decide +kernel
theorem d_State_copy_19 : decode (ab_bc mt_State_copy) 19 = .ok (.invokevirtual 61, 3) := by decide +kernel
theorem d_State_copy_22 : decode (ab_bc mt_State_copy) 22 = .ok (.aload_n 0, 1) := by decide +kernel
theorem d_State_copy_23 : decode (ab_bc mt_State_copy) 23 = .ok (.getfield 26, 3) := by decide +kernel
theorem d_State_copy_26 : decode (ab_bc mt_State_copy) 26 = .ok (.aload_n 1, 1) := by decide +kernel
theorem d_State_copy_27 : decode (ab_bc mt_State_copy) 27 = .ok (.getfield 26, 3) := by decide +kernel
theorem d_State_copy_30 : decode (ab_bc mt_State_copy) 30 = .ok (.invokevirtual 64, 3) := by decide +kernel
theorem d_State_copy_33 : decode (ab_bc mt_State_copy) 33 = .ok (.aload_n 0, 1) := by decide +kernel
theorem d_State_copy_34 : decode (ab_bc mt_State_copy) 34 = .ok (.aload_n 1, 1) := by decide +kernel
theorem d_State_copy_35 : decode (ab_bc mt_State_copy) 35 = .ok (.getfield 30, 3) := by decide +kernel
theorem d_State_copy_38 : decode (ab_bc mt_State_copy) 38 = .ok (.putfield 30, 3) := by decide +kernel
theorem d_State_copy_41 : decode (ab_bc mt_State_copy) 41 = .ok (.aload_n 0, 1) := by decide +kernel
theorem d_State_copy_42 : decode (ab_bc mt_State_copy) 42 = .ok (.aload_n 1, 1) := by decide +kernel
theorem d_State_copy_43 : decode (ab_bc mt_State_copy) 43 = .ok (.getfield 34, 3) := by decide +kernel
theorem d_State_copy_46 : decode (ab_bc mt_State_copy) 46 = .ok (.putfield 34, 3) := by decide +kernel
theorem d_State_copy_49 : decode (ab_bc mt_State_copy) 49 = .ok (.aload_n 0, 1) := by decide +kernel
theorem d_State_copy_50 : decode (ab_bc mt_State_copy) 50 = .ok (.aload_n 1, 1) := by decide +kernel
theorem d_State_copy_51 : decode (ab_bc mt_State_copy) 51 = .ok (.getfield 37, 3) := by decide +kernel
theorem d_State_copy_54 : decode (ab_bc mt_State_copy) 54 = .ok (.putfield 37, 3) := by decide +kernel
theorem d_State_copy_57 : decode (ab_bc mt_State_copy) 57 = .ok (.aload_n 1, 1) := by decide +kernel
theorem d_State_copy_58 : decode (ab_bc mt_State_copy) 58 = .ok (.getfield 40, 3) := by decide +kernel
theorem d_State_copy_61 : decode (ab_bc mt_State_copy) 61 = .ok (.iconst 0, 1) := by decide +kernel
theorem d_State_copy_62 : decode (ab_bc mt_State_copy) 62 = .ok (.aload_n 0, 1) := by decide +kernel
theorem d_State_copy_63 : decode (ab_bc mt_State_copy) 63 = .ok (.getfield 40, 3) := by decide +kernel
theorem d_State_copy_66 : decode (ab_bc mt_State_copy) 66 = .ok (.iconst 0, 1) := by decide +kernel
theorem d_State_copy_67 : decode (ab_bc mt_State_copy) 67 = .ok (.aload_n 0, 1) := by decide +kernel
theorem d_State_copy_68 : decode (ab_bc mt_State_copy) 68 = .ok (.getfield 40, 3) := by decide +kernel
theorem d_State_copy_71 : decode (ab_bc mt_State_copy) 71 = .ok (.arraylength, 1) := by decide +kernel
theorem d_State_copy_72 : decode (ab_bc mt_State_copy) 72 = .ok (.invokestatic 67, 3) := by decide +kernel
theorem d_State_copy_75 : decode (ab_bc mt_State_copy) 75 = .ok (.return_, 1) := by decide +kernel
-- CableKeeper$State.copy(LCableKeeper$State;)V over kx_kept, kx_now
theorem q_State_copy_0_0 {w : ab_Wd} {d n nc ns : Nat} {I : Nat → Nat → Int32} {L : Nat → Nat → Int64} {res : ab_Re}  (hc : nc ≤ res.2.2.2.2.2.1) (hs : ns ≤ res.2.2.2.2.2.2)
    (h : ∃ (I2 : Nat → Nat → Int32), ab_C w d mt_Cables_copy [.ref kx_kept_cables, .ref kx_now_cables] (I, L, ab_RR, n, nc, ns) (.inl none, (I2, L, ab_RR, n, nc, ns)) ∧ ∃ (I4 : Nat → Nat → Int32), ab_C w d mt_Swaps_copy [.ref kx_kept_swaps, .ref kx_now_swaps] (I2, L, ab_RR, n, nc, ns) (.inl none, (I4, L, ab_RR, n, nc, ns)) ∧ ∃ (I6 : Nat → Nat → Int32), ab_C w d mt_Acts_copy [.ref kx_kept_acts, .ref kx_now_acts] (I4, L, ab_RR, n, nc, ns) (.inl none, (I6, L, ab_RR, n, nc, ns)) ∧ res = (.inl none, ((ab_row (ab_up (ab_up (ab_up I6 kx_kept 3 (I6 kx_now 3)) kx_kept 4 (I6 kx_now 4)) kx_kept 5 (I6 kx_now 5)) kx_kept_refused (va_cpy (I6 kx_now_refused) (I6 kx_kept_refused) 0 0 3)), L, ab_RR, n, nc, ns))) : ab_E w (d + 1) mt_State_copy 0 [.ref kx_kept, .ref kx_now] [] (I, L, ab_RR, n, nc, ns) res := by
  refine ab_aload_n (i := 0) d_State_copy_0 rfl rfl ?_
  refine ab_getR (ci := 6) (k := 0) (j := kx_kept_cables) d_State_copy_1 v_293 rfl (by decide) (by decide) rfl r_kx_kept_0 ?_
  refine ab_aload_n (i := 1) d_State_copy_4 rfl rfl ?_
  refine ab_getR (ci := 6) (k := 0) (j := kx_now_cables) d_State_copy_5 v_293 rfl (by decide) (by decide) rfl r_kx_now_0 ?_
  obtain ⟨I2, hC, h⟩ := h
  refine ab_callV (me2 := mt_Cables_copy) (b := kx_kept_cables) (as := [.ref kx_now_cables]) (st := []) (rv := none) (M2 := (I2, L, ab_RR, n, nc, ns)) d_State_copy_8 ce_Cables_copy v_671 v_672 v_673 (by decide) rfl (Nat.le_of_ble_eq_true rfl) hC (Nat.le_refl _) (Nat.le_refl _) hc hs (fun j h9 => by cases h9) (fun _ _ => rfl) ?_
  show ab_E w (d + 1) mt_State_copy 11 [.ref kx_kept, .ref kx_now] [] (I2, L, ab_RR, n, nc, ns) res
  refine ab_aload_n (i := 0) d_State_copy_11 rfl rfl ?_
  refine ab_getR (ci := 6) (k := 1) (j := kx_kept_swaps) d_State_copy_12 v_295 rfl (by decide) (by decide) rfl r_kx_kept_1 ?_
  refine ab_aload_n (i := 1) d_State_copy_15 rfl rfl ?_
  refine ab_getR (ci := 6) (k := 1) (j := kx_now_swaps) d_State_copy_16 v_295 rfl (by decide) (by decide) rfl r_kx_now_1 ?_
  obtain ⟨I4, hC, h⟩ := h
  refine ab_callV (me2 := mt_Swaps_copy) (b := kx_kept_swaps) (as := [.ref kx_now_swaps]) (st := []) (rv := none) (M2 := (I4, L, ab_RR, n, nc, ns)) d_State_copy_19 ce_Swaps_copy v_676 v_677 v_678 (by decide) rfl (Nat.le_of_ble_eq_true rfl) hC (Nat.le_refl _) (Nat.le_refl _) hc hs (fun j h9 => by cases h9) (fun _ _ => rfl) ?_
  show ab_E w (d + 1) mt_State_copy 22 [.ref kx_kept, .ref kx_now] [] (I4, L, ab_RR, n, nc, ns) res
  refine ab_aload_n (i := 0) d_State_copy_22 rfl rfl ?_
  refine ab_getR (ci := 6) (k := 2) (j := kx_kept_acts) d_State_copy_23 v_297 rfl (by decide) (by decide) rfl r_kx_kept_2 ?_
  refine ab_aload_n (i := 1) d_State_copy_26 rfl rfl ?_
  refine ab_getR (ci := 6) (k := 2) (j := kx_now_acts) d_State_copy_27 v_297 rfl (by decide) (by decide) rfl r_kx_now_2 ?_
  obtain ⟨I6, hC, h⟩ := h
  refine ab_callV (me2 := mt_Acts_copy) (b := kx_kept_acts) (as := [.ref kx_now_acts]) (st := []) (rv := none) (M2 := (I6, L, ab_RR, n, nc, ns)) d_State_copy_30 ce_Acts_copy v_681 v_682 v_683 (by decide) rfl (Nat.le_of_ble_eq_true rfl) hC (Nat.le_refl _) (Nat.le_refl _) hc hs (fun j h9 => by cases h9) (fun _ _ => rfl) ?_
  show ab_E w (d + 1) mt_State_copy 33 [.ref kx_kept, .ref kx_now] [] (I6, L, ab_RR, n, nc, ns) res
  refine ab_aload_n (i := 0) d_State_copy_33 rfl rfl ?_
  refine ab_aload_n (i := 1) d_State_copy_34 rfl rfl ?_
  refine ab_getI (ci := 6) (k := 3) d_State_copy_35 v_299 rfl (by decide) (by decide) rfl ?_
  refine ab_putI (ci := 6) (k := 3) d_State_copy_38 v_299 rfl (by decide) (by decide) rfl (Or.inl rfl) rfl rfl ?_
  refine ab_aload_n (i := 0) d_State_copy_41 rfl rfl ?_
  refine ab_aload_n (i := 1) d_State_copy_42 rfl rfl ?_
  refine ab_getI (ci := 6) (k := 4) d_State_copy_43 v_301 rfl (by decide) (by decide) rfl ?_
  refine ab_putI (ci := 6) (k := 4) d_State_copy_46 v_301 rfl (by decide) (by decide) rfl (Or.inl rfl) rfl rfl ?_
  refine ab_aload_n (i := 0) d_State_copy_49 rfl rfl ?_
  refine ab_aload_n (i := 1) d_State_copy_50 rfl rfl ?_
  refine ab_getI (ci := 6) (k := 5) d_State_copy_51 v_303 rfl (by decide) (by decide) rfl ?_
  refine ab_putI (ci := 6) (k := 5) d_State_copy_54 v_303 rfl (by decide) (by decide) rfl (Or.inl rfl) rfl rfl ?_
  refine ab_aload_n (i := 1) d_State_copy_57 rfl rfl ?_
  refine ab_getR (ci := 6) (k := 6) (j := kx_now_refused) d_State_copy_58 v_305 rfl (by decide) (by decide) rfl r_kx_now_6 ?_
  refine ab_iconst (v := 0) d_State_copy_61 rfl ?_
  refine ab_aload_n (i := 0) d_State_copy_62 rfl rfl ?_
  refine ab_getR (ci := 6) (k := 6) (j := kx_kept_refused) d_State_copy_63 v_305 rfl (by decide) (by decide) rfl r_kx_kept_6 ?_
  refine ab_iconst (v := 0) d_State_copy_66 rfl ?_
  refine ab_aload_n (i := 0) d_State_copy_67 rfl rfl ?_
  refine ab_getR (ci := 6) (k := 6) (j := kx_kept_refused) d_State_copy_68 v_305 rfl (by decide) (by decide) rfl r_kx_kept_6 ?_
  refine ab_alen (v := 3) d_State_copy_71 (by decide) (by decide) rfl ?_
  refine ab_copy d_State_copy_72 v_685 v_562 v_561 v_161 rfl rfl rfl rfl (by decide) (by decide) (by decide) (by decide) (by decide) (Nat.succ_le_succ (Nat.zero_le _)) (Nat.le_of_ble_eq_true rfl) ?_
  exact ab_vret d_State_copy_75 rfl h
-- CableKeeper$State.copy(LCableKeeper$State;)V over kx_now, kx_kept
theorem q_State_copy_1_0 {w : ab_Wd} {d n nc ns : Nat} {I : Nat → Nat → Int32} {L : Nat → Nat → Int64} {res : ab_Re}  (hc : nc ≤ res.2.2.2.2.2.1) (hs : ns ≤ res.2.2.2.2.2.2)
    (h : ∃ (I2 : Nat → Nat → Int32), ab_C w d mt_Cables_copy [.ref kx_now_cables, .ref kx_kept_cables] (I, L, ab_RR, n, nc, ns) (.inl none, (I2, L, ab_RR, n, nc, ns)) ∧ ∃ (I4 : Nat → Nat → Int32), ab_C w d mt_Swaps_copy [.ref kx_now_swaps, .ref kx_kept_swaps] (I2, L, ab_RR, n, nc, ns) (.inl none, (I4, L, ab_RR, n, nc, ns)) ∧ ∃ (I6 : Nat → Nat → Int32), ab_C w d mt_Acts_copy [.ref kx_now_acts, .ref kx_kept_acts] (I4, L, ab_RR, n, nc, ns) (.inl none, (I6, L, ab_RR, n, nc, ns)) ∧ res = (.inl none, ((ab_row (ab_up (ab_up (ab_up I6 kx_now 3 (I6 kx_kept 3)) kx_now 4 (I6 kx_kept 4)) kx_now 5 (I6 kx_kept 5)) kx_now_refused (va_cpy (I6 kx_kept_refused) (I6 kx_now_refused) 0 0 3)), L, ab_RR, n, nc, ns))) : ab_E w (d + 1) mt_State_copy 0 [.ref kx_now, .ref kx_kept] [] (I, L, ab_RR, n, nc, ns) res := by
  refine ab_aload_n (i := 0) d_State_copy_0 rfl rfl ?_
  refine ab_getR (ci := 6) (k := 0) (j := kx_now_cables) d_State_copy_1 v_293 rfl (by decide) (by decide) rfl r_kx_now_0 ?_
  refine ab_aload_n (i := 1) d_State_copy_4 rfl rfl ?_
  refine ab_getR (ci := 6) (k := 0) (j := kx_kept_cables) d_State_copy_5 v_293 rfl (by decide) (by decide) rfl r_kx_kept_0 ?_
  obtain ⟨I2, hC, h⟩ := h
  refine ab_callV (me2 := mt_Cables_copy) (b := kx_now_cables) (as := [.ref kx_kept_cables]) (st := []) (rv := none) (M2 := (I2, L, ab_RR, n, nc, ns)) d_State_copy_8 ce_Cables_copy v_671 v_672 v_673 (by decide) rfl (Nat.le_of_ble_eq_true rfl) hC (Nat.le_refl _) (Nat.le_refl _) hc hs (fun j h9 => by cases h9) (fun _ _ => rfl) ?_
  show ab_E w (d + 1) mt_State_copy 11 [.ref kx_now, .ref kx_kept] [] (I2, L, ab_RR, n, nc, ns) res
  refine ab_aload_n (i := 0) d_State_copy_11 rfl rfl ?_
  refine ab_getR (ci := 6) (k := 1) (j := kx_now_swaps) d_State_copy_12 v_295 rfl (by decide) (by decide) rfl r_kx_now_1 ?_
  refine ab_aload_n (i := 1) d_State_copy_15 rfl rfl ?_
  refine ab_getR (ci := 6) (k := 1) (j := kx_kept_swaps) d_State_copy_16 v_295 rfl (by decide) (by decide) rfl r_kx_kept_1 ?_
  obtain ⟨I4, hC, h⟩ := h
  refine ab_callV (me2 := mt_Swaps_copy) (b := kx_now_swaps) (as := [.ref kx_kept_swaps]) (st := []) (rv := none) (M2 := (I4, L, ab_RR, n, nc, ns)) d_State_copy_19 ce_Swaps_copy v_676 v_677 v_678 (by decide) rfl (Nat.le_of_ble_eq_true rfl) hC (Nat.le_refl _) (Nat.le_refl _) hc hs (fun j h9 => by cases h9) (fun _ _ => rfl) ?_
  show ab_E w (d + 1) mt_State_copy 22 [.ref kx_now, .ref kx_kept] [] (I4, L, ab_RR, n, nc, ns) res
  refine ab_aload_n (i := 0) d_State_copy_22 rfl rfl ?_
  refine ab_getR (ci := 6) (k := 2) (j := kx_now_acts) d_State_copy_23 v_297 rfl (by decide) (by decide) rfl r_kx_now_2 ?_
  refine ab_aload_n (i := 1) d_State_copy_26 rfl rfl ?_
  refine ab_getR (ci := 6) (k := 2) (j := kx_kept_acts) d_State_copy_27 v_297 rfl (by decide) (by decide) rfl r_kx_kept_2 ?_
  obtain ⟨I6, hC, h⟩ := h
  refine ab_callV (me2 := mt_Acts_copy) (b := kx_now_acts) (as := [.ref kx_kept_acts]) (st := []) (rv := none) (M2 := (I6, L, ab_RR, n, nc, ns)) d_State_copy_30 ce_Acts_copy v_681 v_682 v_683 (by decide) rfl (Nat.le_of_ble_eq_true rfl) hC (Nat.le_refl _) (Nat.le_refl _) hc hs (fun j h9 => by cases h9) (fun _ _ => rfl) ?_
  show ab_E w (d + 1) mt_State_copy 33 [.ref kx_now, .ref kx_kept] [] (I6, L, ab_RR, n, nc, ns) res
  refine ab_aload_n (i := 0) d_State_copy_33 rfl rfl ?_
  refine ab_aload_n (i := 1) d_State_copy_34 rfl rfl ?_
  refine ab_getI (ci := 6) (k := 3) d_State_copy_35 v_299 rfl (by decide) (by decide) rfl ?_
  refine ab_putI (ci := 6) (k := 3) d_State_copy_38 v_299 rfl (by decide) (by decide) rfl (Or.inl rfl) rfl rfl ?_
  refine ab_aload_n (i := 0) d_State_copy_41 rfl rfl ?_
  refine ab_aload_n (i := 1) d_State_copy_42 rfl rfl ?_
  refine ab_getI (ci := 6) (k := 4) d_State_copy_43 v_301 rfl (by decide) (by decide) rfl ?_
  refine ab_putI (ci := 6) (k := 4) d_State_copy_46 v_301 rfl (by decide) (by decide) rfl (Or.inl rfl) rfl rfl ?_
  refine ab_aload_n (i := 0) d_State_copy_49 rfl rfl ?_
  refine ab_aload_n (i := 1) d_State_copy_50 rfl rfl ?_
  refine ab_getI (ci := 6) (k := 5) d_State_copy_51 v_303 rfl (by decide) (by decide) rfl ?_
  refine ab_putI (ci := 6) (k := 5) d_State_copy_54 v_303 rfl (by decide) (by decide) rfl (Or.inl rfl) rfl rfl ?_
  refine ab_aload_n (i := 1) d_State_copy_57 rfl rfl ?_
  refine ab_getR (ci := 6) (k := 6) (j := kx_kept_refused) d_State_copy_58 v_305 rfl (by decide) (by decide) rfl r_kx_kept_6 ?_
  refine ab_iconst (v := 0) d_State_copy_61 rfl ?_
  refine ab_aload_n (i := 0) d_State_copy_62 rfl rfl ?_
  refine ab_getR (ci := 6) (k := 6) (j := kx_now_refused) d_State_copy_63 v_305 rfl (by decide) (by decide) rfl r_kx_now_6 ?_
  refine ab_iconst (v := 0) d_State_copy_66 rfl ?_
  refine ab_aload_n (i := 0) d_State_copy_67 rfl rfl ?_
  refine ab_getR (ci := 6) (k := 6) (j := kx_now_refused) d_State_copy_68 v_305 rfl (by decide) (by decide) rfl r_kx_now_6 ?_
  refine ab_alen (v := 3) d_State_copy_71 (by decide) (by decide) rfl ?_
  refine ab_copy d_State_copy_72 v_685 v_562 v_561 v_161 rfl rfl rfl rfl (by decide) (by decide) (by decide) (by decide) (by decide) (Nat.succ_le_succ (Nat.zero_le _)) (Nat.le_of_ble_eq_true rfl) ?_
  exact ab_vret d_State_copy_75 rfl h
