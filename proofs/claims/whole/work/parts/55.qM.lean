theorem d_M_is_0 : decode (ab_bc mt_M_is) 0 = .ok (.aload_n 0, 1) := by decide +kernel
theorem d_M_is_1 : decode (ab_bc mt_M_is) 1 = .ok (.getfield 150, 3) := by decide +kernel
theorem d_M_is_4 : decode (ab_bc mt_M_is) 4 = .ok (.ifCond .ne 31, 3) := by decide +kernel
theorem d_M_is_7 : decode (ab_bc mt_M_is) 7 = .ok (.aload_n 0, 1) := by decide +kernel
theorem d_M_is_8 : decode (ab_bc mt_M_is) 8 = .ok (.getfield 127, 3) := by decide +kernel
theorem d_M_is_11 : decode (ab_bc mt_M_is) 11 = .ok (.iconst 1, 1) := by decide +kernel
theorem d_M_is_12 : decode (ab_bc mt_M_is) 12 = .ok (.if_icmp .ne 23, 3) := by decide +kernel
theorem d_M_is_15 : decode (ab_bc mt_M_is) 15 = .ok (.aload_n 1, 1) := by decide +kernel
theorem d_M_is_16 : decode (ab_bc mt_M_is) 16 = .ok (.invokevirtual 156, 3) := by decide +kernel
theorem d_M_is_19 : decode (ab_bc mt_M_is) 19 = .ok (.aload_n 0, 1) := by decide +kernel
theorem d_M_is_20 : decode (ab_bc mt_M_is) 20 = .ok (.getfield 147, 3) := by decide +kernel
theorem d_M_is_23 : decode (ab_bc mt_M_is) 23 = .ok (.aload_n 0, 1) := by decide +kernel
theorem d_M_is_24 : decode (ab_bc mt_M_is) 24 = .ok (.getfield 124, 3) := by decide +kernel
theorem d_M_is_27 : decode (ab_bc mt_M_is) 27 = .ok (.isub, 1) := by decide +kernel
theorem d_M_is_28 : decode (ab_bc mt_M_is) 28 = .ok (.if_icmp .ne 7, 3) := by decide +kernel
theorem d_M_is_31 : decode (ab_bc mt_M_is) 31 = .ok (.iconst 1, 1) := by decide +kernel
theorem d_M_is_32 : decode (ab_bc mt_M_is) 32 = .ok (.goto 4, 3) := by decide +kernel
theorem d_M_is_35 : decode (ab_bc mt_M_is) 35 = .ok (.iconst 0, 1) := by decide +kernel
theorem d_M_is_36 : decode (ab_bc mt_M_is) 36 = .ok (.istore_n 2, 1) := by decide +kernel
theorem d_M_is_37 : decode (ab_bc mt_M_is) 37 = .ok (.iconst 0, 1) := by decide +kernel
theorem d_M_is_38 : decode (ab_bc mt_M_is) 38 = .ok (.istore_n 3, 1) := by decide +kernel
theorem d_M_is_39 : decode (ab_bc mt_M_is) 39 = .ok (.iload_n 2, 1) := by decide +kernel
theorem d_M_is_40 : decode (ab_bc mt_M_is) 40 = .ok (.ifCond .eq 42, 3) := by decide +kernel
theorem d_M_is_43 : decode (ab_bc mt_M_is) 43 = .ok (.iload_n 3, 1) := by decide +kernel
theorem d_M_is_44 : decode (ab_bc mt_M_is) 44 = .ok (.aload_n 1, 1) := by decide +kernel
theorem d_M_is_45 : decode (ab_bc mt_M_is) 45 = .ok (.invokevirtual 156, 3) := by decide +kernel
theorem d_M_is_48 : decode (ab_bc mt_M_is) 48 = .ok (.if_icmp .ge 34, 3) := by decide +kernel
theorem d_M_is_51 : decode (ab_bc mt_M_is) 51 = .ok (.aload_n 1, 1) := by decide +kernel
theorem d_M_is_52 : decode (ab_bc mt_M_is) 52 = .ok (.iload_n 3, 1) := by decide +kernel
theorem d_M_is_53 : decode (ab_bc mt_M_is) 53 = .ok (.invokevirtual 160, 3) := by decide +kernel
theorem d_M_is_56 : decode (ab_bc mt_M_is) 56 = .ok (.aload_n 0, 1) := by decide +kernel
theorem d_M_is_57 : decode (ab_bc mt_M_is) 57 = .ok (.getfield 34, 3) := by decide +kernel
theorem d_M_is_60 : decode (ab_bc mt_M_is) 60 = .ok (.aload_n 0, 1) := by decide +kernel
theorem d_M_is_61 : decode (ab_bc mt_M_is) 61 = .ok (.getfield 124, 3) := by decide +kernel
theorem d_M_is_64 : decode (ab_bc mt_M_is) 64 = .ok (.iload_n 3, 1) := by decide +kernel
theorem d_M_is_65 : decode (ab_bc mt_M_is) 65 = .ok (.iadd, 1) := by decide +kernel
theorem d_M_is_66 : decode (ab_bc mt_M_is) 66 = .ok (.iaload, 1) := by decide +kernel
theorem d_M_is_67 : decode (ab_bc mt_M_is) 67 = .ok (.if_icmp .ne 7, 3) := by decide +kernel
theorem d_M_is_70 : decode (ab_bc mt_M_is) 70 = .ok (.iconst 1, 1) := by decide +kernel
theorem d_M_is_71 : decode (ab_bc mt_M_is) 71 = .ok (.goto 4, 3) := by decide +kernel
theorem d_M_is_74 : decode (ab_bc mt_M_is) 74 = .ok (.iconst 0, 1) := by decide +kernel
theorem d_M_is_75 : decode (ab_bc mt_M_is) 75 = .ok (.istore_n 2, 1) := by decide +kernel
theorem d_M_is_76 : decode (ab_bc mt_M_is) 76 = .ok (.iinc 3 1, 3) := by decide +kernel
theorem d_M_is_79 : decode (ab_bc mt_M_is) 79 = .ok (.goto (-40), 3) := by decide +kernel
theorem d_M_is_82 : decode (ab_bc mt_M_is) 82 = .ok (.iload_n 2, 1) := by decide +kernel
theorem d_M_is_83 : decode (ab_bc mt_M_is) 83 = .ok (.ireturn, 1) := by decide +kernel
-- CableKeeperModel.is(Ljava/lang/String;)Z over mx, S:j
theorem q_M_is_0 {w : ab_Wd} {d n nc ns : Nat} {I : Nat → Nat → Int32} {L : Nat → Nat → Int64} {res : ab_Re} {j : Nat} (hj : j < 8) (hc : nc ≤ res.2.2.2.2.2.1) (hs : ns ≤ res.2.2.2.2.2.2)
    (h : ((¬ (I mx 15) = 0 → (ab_E w (d + 1) mt_M_is 35 [.ref mx, .ref (64 * j + 32), .null, .null] [] (I, L, ab_RR, n, nc, ns) res)) ∧ ((I mx 15) = 0 → ((¬ (I mx 11) = 1 → (ab_E w (d + 1) mt_M_is 35 [.ref mx, .ref (64 * j + 32), .null, .null] [] (I, L, ab_RR, n, nc, ns) res)) ∧ ((I mx 11) = 1 → (∃ (r3 : Int32), ab_C w d mt_Str_length [.ref (64 * j + 32)] (I, L, ab_RR, n, nc, ns) (.inl (some (.int r3)), (I, L, ab_RR, n, nc, ns)) ∧ ((¬ r3 = ((I mx 14) - (I mx 13)) → (ab_E w (d + 1) mt_M_is 35 [.ref mx, .ref (64 * j + 32), .null, .null] [] (I, L, ab_RR, n, nc, ns) res)) ∧ (r3 = ((I mx 14) - (I mx 13)) → (ab_E w (d + 1) mt_M_is 36 [.ref mx, .ref (64 * j + 32), .null, .null] [.int 1] (I, L, ab_RR, n, nc, ns) res))))))))) : ab_E w (d + 1) mt_M_is 0 [.ref mx, .ref (64 * j + 32), .null, .null] [] (I, L, ab_RR, n, nc, ns) res := by
  refine ab_aload_n (i := 0) d_M_is_0 rfl rfl ?_
  refine ab_getI (ci := 11) (k := 15) d_M_is_1 v_1383 rfl (by decide) (by decide) rfl ?_
  refine ab_if_ne (tgt := 35) d_M_is_4 (by decide) (fun c1 => ?_) (fun c1 => ?_)
  · have h := h.1 c1
    exact h
  · have h := h.2 c1
    refine ab_aload_n (i := 0) d_M_is_7 rfl rfl ?_
    refine ab_getI (ci := 11) (k := 11) d_M_is_8 v_1379 rfl (by decide) (by decide) rfl ?_
    refine ab_iconst (v := 1) d_M_is_11 rfl ?_
    refine ab_icmp_ne (tgt := 35) d_M_is_12 (by decide) (fun c2 => ?_) (fun c2 => ?_)
    · have h := h.1 c2
      exact h
    · have h := h.2 c2
      refine ab_aload_n (i := 1) d_M_is_15 rfl rfl ?_
      obtain ⟨r3, hC, h⟩ := h
      refine ab_callT (me2 := mt_Str_length) (j := j) (as := []) (st := []) (rv := (some (.int r3))) (M2 := (I, L, ab_RR, n, nc, ns)) d_M_is_16 hj ce_Str_length v_1594 v_834 v_835 rfl (Nat.le_of_ble_eq_true rfl) hC (Nat.le_refl _) (Nat.le_refl _) hc hs (fun j h9 => by cases h9) (fun _ _ => rfl) ?_
      show ab_E w (d + 1) mt_M_is 19 [.ref mx, .ref (64 * j + 32), .null, .null] [.int r3] (I, L, ab_RR, n, nc, ns) res
      refine ab_aload_n (i := 0) d_M_is_19 rfl rfl ?_
      refine ab_getI (ci := 11) (k := 14) d_M_is_20 v_1382 rfl (by decide) (by decide) rfl ?_
      refine ab_aload_n (i := 0) d_M_is_23 rfl rfl ?_
      refine ab_getI (ci := 11) (k := 13) d_M_is_24 v_1381 rfl (by decide) (by decide) rfl ?_
      refine ab_isub d_M_is_27 ?_
      refine ab_icmp_ne (tgt := 35) d_M_is_28 (by decide) (fun c4 => ?_) (fun c4 => ?_)
      · have h := h.1 c4
        exact h
      · have h := h.2 c4
        refine ab_iconst (v := 1) d_M_is_31 rfl ?_
        refine ab_goto (tgt := 36) d_M_is_32 (by decide) ?_
        exact h
theorem q_M_is_35 {w : ab_Wd} {d n nc ns : Nat} {I : Nat → Nat → Int32} {L : Nat → Nat → Int64} {res : ab_Re} {j : Nat} (hj : j < 8) (hc : nc ≤ res.2.2.2.2.2.1) (hs : ns ≤ res.2.2.2.2.2.2)
    (h : ab_E w (d + 1) mt_M_is 36 [.ref mx, .ref (64 * j + 32), .null, .null] [.int 0] (I, L, ab_RR, n, nc, ns) res) : ab_E w (d + 1) mt_M_is 35 [.ref mx, .ref (64 * j + 32), .null, .null] [] (I, L, ab_RR, n, nc, ns) res := by
  refine ab_iconst (v := 0) d_M_is_35 rfl ?_
  exact h
theorem q_M_is_36 {w : ab_Wd} {d n nc ns : Nat} {I : Nat → Nat → Int32} {L : Nat → Nat → Int64} {res : ab_Re} {j : Nat} (hj : j < 8) (s0 : Int32) (hc : nc ≤ res.2.2.2.2.2.1) (hs : ns ≤ res.2.2.2.2.2.2)
    (h : ab_E w (d + 1) mt_M_is 39 [.ref mx, .ref (64 * j + 32), .int s0, .int 0] [] (I, L, ab_RR, n, nc, ns) res) : ab_E w (d + 1) mt_M_is 36 [.ref mx, .ref (64 * j + 32), .null, .null] [.int s0] (I, L, ab_RR, n, nc, ns) res := by
  refine ab_istore_n (i := 2) d_M_is_36 rfl (by decide) (Or.inr rfl) ?_
  refine ab_iconst (v := 0) d_M_is_37 rfl ?_
  refine ab_istore_n (i := 3) d_M_is_38 rfl (by decide) (Or.inr rfl) ?_
  exact h
theorem q_M_is_39 {w : ab_Wd} {d n nc ns : Nat} {I : Nat → Nat → Int32} {L : Nat → Nat → Int64} {res : ab_Re} {j : Nat} (hj : j < 8) (v2 : Int32) (v3 : Int32) (hc : nc ≤ res.2.2.2.2.2.1) (hs : ns ≤ res.2.2.2.2.2.2)
    (h : ((v2 = 0 → (ab_E w (d + 1) mt_M_is 82 [.ref mx, .ref (64 * j + 32), .int v2, .int v3] [] (I, L, ab_RR, n, nc, ns) res)) ∧ (¬ v2 = 0 → (∃ (r2 : Int32), ab_C w d mt_Str_length [.ref (64 * j + 32)] (I, L, ab_RR, n, nc, ns) (.inl (some (.int r2)), (I, L, ab_RR, n, nc, ns)) ∧ ((r2 ≤ v3 → (ab_E w (d + 1) mt_M_is 82 [.ref mx, .ref (64 * j + 32), .int v2, .int v3] [] (I, L, ab_RR, n, nc, ns) res)) ∧ (¬ r2 ≤ v3 → (∃ (r4 : Int32), ab_C w d mt_Str_charAt [.ref (64 * j + 32), .int v3] (I, L, ab_RR, n, nc, ns) (.inl (some (.int r4)), (I, L, ab_RR, n, nc, ns)) ∧ (vp_in ((I mx 13) + v3) 700) ∧ ((¬ r4 = (I mx_tape ((I mx 13) + v3).toNatClampNeg) → (ab_E w (d + 1) mt_M_is 75 [.ref mx, .ref (64 * j + 32), .int v2, .int v3] [.int 0] (I, L, ab_RR, n, nc, ns) res)) ∧ (r4 = (I mx_tape ((I mx 13) + v3).toNatClampNeg) → (ab_E w (d + 1) mt_M_is 75 [.ref mx, .ref (64 * j + 32), .int v2, .int v3] [.int 1] (I, L, ab_RR, n, nc, ns) res)))))))))) : ab_E w (d + 1) mt_M_is 39 [.ref mx, .ref (64 * j + 32), .int v2, .int v3] [] (I, L, ab_RR, n, nc, ns) res := by
  refine ab_iload_n (i := 2) d_M_is_39 rfl rfl ?_
  refine ab_if_eq (tgt := 82) d_M_is_40 (by decide) (fun c1 => ?_) (fun c1 => ?_)
  · have h := h.1 c1
    exact h
  · have h := h.2 c1
    refine ab_iload_n (i := 3) d_M_is_43 rfl rfl ?_
    refine ab_aload_n (i := 1) d_M_is_44 rfl rfl ?_
    obtain ⟨r2, hC, h⟩ := h
    refine ab_callT (me2 := mt_Str_length) (j := j) (as := []) (st := [.int v3]) (rv := (some (.int r2))) (M2 := (I, L, ab_RR, n, nc, ns)) d_M_is_45 hj ce_Str_length v_1594 v_834 v_835 rfl (Nat.le_of_ble_eq_true rfl) hC (Nat.le_refl _) (Nat.le_refl _) hc hs (fun j h9 => by cases h9) (fun _ _ => rfl) ?_
    show ab_E w (d + 1) mt_M_is 48 [.ref mx, .ref (64 * j + 32), .int v2, .int v3] [.int r2, .int v3] (I, L, ab_RR, n, nc, ns) res
    refine ab_icmp_ge (tgt := 82) d_M_is_48 (by decide) (fun c3 => ?_) (fun c3 => ?_)
    · have h := h.1 c3
      exact h
    · have h := h.2 c3
      refine ab_aload_n (i := 1) d_M_is_51 rfl rfl ?_
      refine ab_iload_n (i := 3) d_M_is_52 rfl rfl ?_
      obtain ⟨r4, hC, h⟩ := h
      refine ab_callT (me2 := mt_Str_charAt) (j := j) (as := [.int v3]) (st := []) (rv := (some (.int r4))) (M2 := (I, L, ab_RR, n, nc, ns)) d_M_is_53 hj ce_Str_charAt v_1595 v_844 v_845 rfl (Nat.le_of_ble_eq_true rfl) hC (Nat.le_refl _) (Nat.le_refl _) hc hs (fun j h9 => by cases h9) (fun _ _ => rfl) ?_
      show ab_E w (d + 1) mt_M_is 56 [.ref mx, .ref (64 * j + 32), .int v2, .int v3] [.int r4] (I, L, ab_RR, n, nc, ns) res
      refine ab_aload_n (i := 0) d_M_is_56 rfl rfl ?_
      refine ab_getR (ci := 11) (k := 7) (j := mx_tape) d_M_is_57 v_1375 rfl (by decide) (by decide) rfl r_mx_7 ?_
      refine ab_aload_n (i := 0) d_M_is_60 rfl rfl ?_
      refine ab_getI (ci := 11) (k := 13) d_M_is_61 v_1381 rfl (by decide) (by decide) rfl ?_
      refine ab_iload_n (i := 3) d_M_is_64 rfl rfl ?_
      refine ab_iadd d_M_is_65 ?_
      have g5 := h.1; have h := h.2
      refine ab_iald d_M_is_66 rfl rfl g5 ?_
      refine ab_icmp_ne (tgt := 74) d_M_is_67 (by decide) (fun c6 => ?_) (fun c6 => ?_)
      · have h := h.1 c6
        refine ab_iconst (v := 0) d_M_is_74 rfl ?_
        exact h
      · have h := h.2 c6
        refine ab_iconst (v := 1) d_M_is_70 rfl ?_
        refine ab_goto (tgt := 75) d_M_is_71 (by decide) ?_
        exact h
theorem q_M_is_75 {w : ab_Wd} {d n nc ns : Nat} {I : Nat → Nat → Int32} {L : Nat → Nat → Int64} {res : ab_Re} {j : Nat} (hj : j < 8) (v2 : Int32) (v3 : Int32) (s0 : Int32) (hc : nc ≤ res.2.2.2.2.2.1) (hs : ns ≤ res.2.2.2.2.2.2)
    (h : ab_E w (d + 1) mt_M_is 39 [.ref mx, .ref (64 * j + 32), .int s0, .int (v3 + 1)] [] (I, L, ab_RR, n, nc, ns) res) : ab_E w (d + 1) mt_M_is 75 [.ref mx, .ref (64 * j + 32), .int v2, .int v3] [.int s0] (I, L, ab_RR, n, nc, ns) res := by
  refine ab_istore_n (i := 2) d_M_is_75 rfl (by decide) (Or.inr rfl) ?_
  refine ab_iinc (i := 3) (v := (v3 + 1)) d_M_is_76 rfl rfl (by decide) (Or.inr rfl) ?_
  refine ab_goto (tgt := 39) d_M_is_79 (by decide) ?_
  exact h
theorem q_M_is_82 {w : ab_Wd} {d n nc ns : Nat} {I : Nat → Nat → Int32} {L : Nat → Nat → Int64} {res : ab_Re} {j : Nat} (hj : j < 8) (v2 : Int32) (v3 : Int32) (hc : nc ≤ res.2.2.2.2.2.1) (hs : ns ≤ res.2.2.2.2.2.2)
    (h : (narrow .boolean (.int v2) = .int v2) ∧ res = (.inl (some (.int v2)), (I, L, ab_RR, n, nc, ns))) : ab_E w (d + 1) mt_M_is 82 [.ref mx, .ref (64 * j + 32), .int v2, .int v3] [] (I, L, ab_RR, n, nc, ns) res := by
  refine ab_iload_n (i := 2) d_M_is_82 rfl rfl ?_
  have g := h.1; have h := h.2
  exact ab_iret (ty := .boolean) d_M_is_83 rfl g h
theorem d_M_copyTo_0 : decode (ab_bc mt_M_copyTo) 0 = .ok (.iconst 0, 1) := by decide +kernel
theorem d_M_copyTo_1 : decode (ab_bc mt_M_copyTo) 1 = .ok (.istore_n 2, 1) := by decide +kernel
theorem d_M_copyTo_2 : decode (ab_bc mt_M_copyTo) 2 = .ok (.iload_n 2, 1) := by decide +kernel
theorem d_M_copyTo_3 : decode (ab_bc mt_M_copyTo) 3 = .ok (.aload_n 0, 1) := by decide +kernel
theorem d_M_copyTo_4 : decode (ab_bc mt_M_copyTo) 4 = .ok (.arraylength, 1) := by decide +kernel
theorem d_M_copyTo_5 : decode (ab_bc mt_M_copyTo) 5 = .ok (.if_icmp .ge 15, 3) := by decide +kernel
theorem d_M_copyTo_8 : decode (ab_bc mt_M_copyTo) 8 = .ok (.aload_n 0, 1) := by decide +kernel
theorem d_M_copyTo_9 : decode (ab_bc mt_M_copyTo) 9 = .ok (.iload_n 2, 1) := by decide +kernel
theorem d_M_copyTo_10 : decode (ab_bc mt_M_copyTo) 10 = .ok (.aload_n 1, 1) := by decide +kernel
theorem d_M_copyTo_11 : decode (ab_bc mt_M_copyTo) 11 = .ok (.iload_n 2, 1) := by decide +kernel
theorem d_M_copyTo_12 : decode (ab_bc mt_M_copyTo) 12 = .ok (.iaload, 1) := by decide +kernel
theorem d_M_copyTo_13 : decode (ab_bc mt_M_copyTo) 13 = .ok (.iastore, 1) := by decide +kernel
theorem d_M_copyTo_14 : decode (ab_bc mt_M_copyTo) 14 = .ok (.iinc 2 1, 3) := by decide +kernel
theorem d_M_copyTo_17 : decode (ab_bc mt_M_copyTo) 17 = .ok (.goto (-15), 3) := by decide +kernel
theorem d_M_copyTo_20 : decode (ab_bc mt_M_copyTo) 20 = .ok (.return_, 1) := by decide +kernel
-- CableKeeperModel.copyTo([I[I)V over mx_now, mx_reading
theorem q_M_copyTo_0_0 {w : ab_Wd} {d n nc ns : Nat} {I : Nat → Nat → Int32} {L : Nat → Nat → Int64} {res : ab_Re}  (hc : nc ≤ res.2.2.2.2.2.1) (hs : ns ≤ res.2.2.2.2.2.2)
    (h : ab_E w d mt_M_copyTo 2 [.ref mx_now, .ref mx_reading, .int 0] [] (I, L, ab_RR, n, nc, ns) res) : ab_E w d mt_M_copyTo 0 [.ref mx_now, .ref mx_reading, .null] [] (I, L, ab_RR, n, nc, ns) res := by
  refine ab_iconst (v := 0) d_M_copyTo_0 rfl ?_
  refine ab_istore_n (i := 2) d_M_copyTo_1 rfl (by decide) (Or.inr rfl) ?_
  exact h
theorem q_M_copyTo_0_2 {w : ab_Wd} {d n nc ns : Nat} {I : Nat → Nat → Int32} {L : Nat → Nat → Int64} {res : ab_Re} (v2 : Int32) (hc : nc ≤ res.2.2.2.2.2.1) (hs : ns ≤ res.2.2.2.2.2.2)
    (h : ((399 ≤ v2 → (res = (.inl none, (I, L, ab_RR, n, nc, ns)))) ∧ (¬ 399 ≤ v2 → ((vp_in v2 399) ∧ ab_E w d mt_M_copyTo 2 [.ref mx_now, .ref mx_reading, .int (v2 + 1)] [] ((ab_up I mx_now v2.toNatClampNeg (I mx_reading v2.toNatClampNeg)), L, ab_RR, n, nc, ns) res)))) : ab_E w d mt_M_copyTo 2 [.ref mx_now, .ref mx_reading, .int v2] [] (I, L, ab_RR, n, nc, ns) res := by
  refine ab_iload_n (i := 2) d_M_copyTo_2 rfl rfl ?_
  refine ab_aload_n (i := 0) d_M_copyTo_3 rfl rfl ?_
  refine ab_alen (v := 399) d_M_copyTo_4 (by decide) (by decide) rfl ?_
  refine ab_icmp_ge (tgt := 20) d_M_copyTo_5 (by decide) (fun c1 => ?_) (fun c1 => ?_)
  · have h := h.1 c1
    exact ab_vret d_M_copyTo_20 rfl h
  · have h := h.2 c1
    refine ab_aload_n (i := 0) d_M_copyTo_8 rfl rfl ?_
    refine ab_iload_n (i := 2) d_M_copyTo_9 rfl rfl ?_
    refine ab_aload_n (i := 1) d_M_copyTo_10 rfl rfl ?_
    refine ab_iload_n (i := 2) d_M_copyTo_11 rfl rfl ?_
    have g2 := h.1; have h := h.2
    refine ab_iald d_M_copyTo_12 rfl rfl g2 ?_
    refine ab_iast d_M_copyTo_13 rfl rfl g2 ?_
    refine ab_iinc (i := 2) (v := (v2 + 1)) d_M_copyTo_14 rfl rfl (by decide) (Or.inr rfl) ?_
    refine ab_goto (tgt := 2) d_M_copyTo_17 (by decide) ?_
    exact h
theorem d_M_has_0 : decode (ab_bc mt_M_has) 0 = .ok (.iload_n 0, 1) := by decide +kernel
theorem d_M_has_1 : decode (ab_bc mt_M_has) 1 = .ok (.iload_n 1, 1) := by decide +kernel
theorem d_M_has_2 : decode (ab_bc mt_M_has) 2 = .ok (.ishr, 1) := by decide +kernel
theorem d_M_has_3 : decode (ab_bc mt_M_has) 3 = .ok (.iconst 1, 1) := by decide +kernel
theorem d_M_has_4 : decode (ab_bc mt_M_has) 4 = .ok (.iand, 1) := by decide +kernel
theorem d_M_has_5 : decode (ab_bc mt_M_has) 5 = .ok (.iconst 1, 1) := by decide +kernel
theorem d_M_has_6 : decode (ab_bc mt_M_has) 6 = .ok (.if_icmp .ne 7, 3) := by decide +kernel
theorem d_M_has_9 : decode (ab_bc mt_M_has) 9 = .ok (.iconst 1, 1) := by decide +kernel
theorem d_M_has_10 : decode (ab_bc mt_M_has) 10 = .ok (.goto 4, 3) := by decide +kernel
theorem d_M_has_13 : decode (ab_bc mt_M_has) 13 = .ok (.iconst 0, 1) := by decide +kernel
theorem d_M_has_14 : decode (ab_bc mt_M_has) 14 = .ok (.ireturn, 1) := by decide +kernel
-- CableKeeperModel.has(II)Z over 
theorem q_M_has_0 {w : ab_Wd} {d n nc ns : Nat} {I : Nat → Nat → Int32} {L : Nat → Nat → Int64} {res : ab_Re} (v0 : Int32) (v1 : Int32) (hc : nc ≤ res.2.2.2.2.2.1) (hs : ns ≤ res.2.2.2.2.2.2)
    (h : ((¬ ((v0 >>> (v1 &&& 31)) &&& 1) = 1 → (ab_E w d mt_M_has 14 [.int v0, .int v1] [.int 0] (I, L, ab_RR, n, nc, ns) res)) ∧ (((v0 >>> (v1 &&& 31)) &&& 1) = 1 → (ab_E w d mt_M_has 14 [.int v0, .int v1] [.int 1] (I, L, ab_RR, n, nc, ns) res)))) : ab_E w d mt_M_has 0 [.int v0, .int v1] [] (I, L, ab_RR, n, nc, ns) res := by
  refine ab_iload_n (i := 0) d_M_has_0 rfl rfl ?_
  refine ab_iload_n (i := 1) d_M_has_1 rfl rfl ?_
  refine ab_ishr d_M_has_2 ?_
  refine ab_iconst (v := 1) d_M_has_3 rfl ?_
  refine ab_iand d_M_has_4 ?_
  refine ab_iconst (v := 1) d_M_has_5 rfl ?_
  refine ab_icmp_ne (tgt := 13) d_M_has_6 (by decide) (fun c1 => ?_) (fun c1 => ?_)
  · have h := h.1 c1
    refine ab_iconst (v := 0) d_M_has_13 rfl ?_
    exact h
  · have h := h.2 c1
    refine ab_iconst (v := 1) d_M_has_9 rfl ?_
    refine ab_goto (tgt := 14) d_M_has_10 (by decide) ?_
    exact h
theorem q_M_has_14 {w : ab_Wd} {d n nc ns : Nat} {I : Nat → Nat → Int32} {L : Nat → Nat → Int64} {res : ab_Re} (v0 : Int32) (v1 : Int32) (s0 : Int32) (hc : nc ≤ res.2.2.2.2.2.1) (hs : ns ≤ res.2.2.2.2.2.2)
    (h : (narrow .boolean (.int s0) = .int s0) ∧ res = (.inl (some (.int s0)), (I, L, ab_RR, n, nc, ns))) : ab_E w d mt_M_has 14 [.int v0, .int v1] [.int s0] (I, L, ab_RR, n, nc, ns) res := by
  have g := h.1; have h := h.2
  exact ab_iret (ty := .boolean) d_M_has_14 rfl g h
theorem d_M_finds_0 : decode (ab_bc mt_M_finds) 0 = .ok (.aload_n 3, 1) := by decide +kernel
theorem d_M_finds_1 : decode (ab_bc mt_M_finds) 1 = .ok (.iload_n 1, 1) := by decide +kernel
theorem d_M_finds_2 : decode (ab_bc mt_M_finds) 2 = .ok (.iconst 1, 1) := by decide +kernel
theorem d_M_finds_3 : decode (ab_bc mt_M_finds) 3 = .ok (.bastore, 1) := by decide +kernel
theorem d_M_finds_4 : decode (ab_bc mt_M_finds) 4 = .ok (.iconst 0, 1) := by decide +kernel
theorem d_M_finds_5 : decode (ab_bc mt_M_finds) 5 = .ok (.istore 4, 2) := by decide +kernel
theorem d_M_finds_7 : decode (ab_bc mt_M_finds) 7 = .ok (.iload 4, 2) := by decide +kernel
theorem d_M_finds_9 : decode (ab_bc mt_M_finds) 9 = .ok (.aload_n 0, 1) := by decide +kernel
theorem d_M_finds_10 : decode (ab_bc mt_M_finds) 10 = .ok (.invokevirtual 234, 3) := by decide +kernel
theorem d_M_finds_13 : decode (ab_bc mt_M_finds) 13 = .ok (.if_icmp .ge 112, 3) := by decide +kernel
theorem d_M_finds_16 : decode (ab_bc mt_M_finds) 16 = .ok (.iload_n 1, 1) := by decide +kernel
theorem d_M_finds_17 : decode (ab_bc mt_M_finds) 17 = .ok (.iload_n 2, 1) := by decide +kernel
theorem d_M_finds_18 : decode (ab_bc mt_M_finds) 18 = .ok (.if_icmp .eq 107, 3) := by decide +kernel
theorem d_M_finds_21 : decode (ab_bc mt_M_finds) 21 = .ok (.aload_n 0, 1) := by decide +kernel
theorem d_M_finds_22 : decode (ab_bc mt_M_finds) 22 = .ok (.iload 4, 2) := by decide +kernel
theorem d_M_finds_24 : decode (ab_bc mt_M_finds) 24 = .ok (.invokevirtual 262, 3) := by decide +kernel
theorem d_M_finds_27 : decode (ab_bc mt_M_finds) 27 = .ok (.ifCond .eq 13, 3) := by decide +kernel
theorem d_M_finds_30 : decode (ab_bc mt_M_finds) 30 = .ok (.aload_n 0, 1) := by decide +kernel
theorem d_M_finds_31 : decode (ab_bc mt_M_finds) 31 = .ok (.iload 4, 2) := by decide +kernel
theorem d_M_finds_33 : decode (ab_bc mt_M_finds) 33 = .ok (.iload_n 1, 1) := by decide +kernel
theorem d_M_finds_34 : decode (ab_bc mt_M_finds) 34 = .ok (.invokevirtual 269, 3) := by decide +kernel
theorem d_M_finds_37 : decode (ab_bc mt_M_finds) 37 = .ok (.goto 4, 3) := by decide +kernel
theorem d_M_finds_40 : decode (ab_bc mt_M_finds) 40 = .ok (.iconst (-1), 1) := by decide +kernel
theorem d_M_finds_41 : decode (ab_bc mt_M_finds) 41 = .ok (.istore 5, 2) := by decide +kernel
theorem d_M_finds_43 : decode (ab_bc mt_M_finds) 43 = .ok (.aload_n 0, 1) := by decide +kernel
theorem d_M_finds_44 : decode (ab_bc mt_M_finds) 44 = .ok (.getfield 24, 3) := by decide +kernel
theorem d_M_finds_47 : decode (ab_bc mt_M_finds) 47 = .ok (.iconst 3, 1) := by decide +kernel
theorem d_M_finds_48 : decode (ab_bc mt_M_finds) 48 = .ok (.iload 4, 2) := by decide +kernel
theorem d_M_finds_50 : decode (ab_bc mt_M_finds) 50 = .ok (.iadd, 1) := by decide +kernel
theorem d_M_finds_51 : decode (ab_bc mt_M_finds) 51 = .ok (.iaload, 1) := by decide +kernel
theorem d_M_finds_52 : decode (ab_bc mt_M_finds) 52 = .ok (.iload_n 1, 1) := by decide +kernel
theorem d_M_finds_53 : decode (ab_bc mt_M_finds) 53 = .ok (.if_icmp .ne 7, 3) := by decide +kernel
theorem d_M_finds_56 : decode (ab_bc mt_M_finds) 56 = .ok (.iconst 1, 1) := by decide +kernel
theorem d_M_finds_57 : decode (ab_bc mt_M_finds) 57 = .ok (.goto 4, 3) := by decide +kernel
theorem d_M_finds_60 : decode (ab_bc mt_M_finds) 60 = .ok (.iconst (-1), 1) := by decide +kernel
theorem d_M_finds_61 : decode (ab_bc mt_M_finds) 61 = .ok (.istore 6, 2) := by decide +kernel
theorem d_M_finds_63 : decode (ab_bc mt_M_finds) 63 = .ok (.iload 5, 2) := by decide +kernel
theorem d_M_finds_65 : decode (ab_bc mt_M_finds) 65 = .ok (.iconst (-1), 1) := by decide +kernel
theorem d_M_finds_66 : decode (ab_bc mt_M_finds) 66 = .ok (.if_icmp .eq 53, 3) := by decide +kernel
theorem d_M_finds_69 : decode (ab_bc mt_M_finds) 69 = .ok (.aload_n 3, 1) := by decide +kernel
theorem d_M_finds_70 : decode (ab_bc mt_M_finds) 70 = .ok (.iload 5, 2) := by decide +kernel
theorem d_M_finds_72 : decode (ab_bc mt_M_finds) 72 = .ok (.baload, 1) := by decide +kernel
theorem d_M_finds_73 : decode (ab_bc mt_M_finds) 73 = .ok (.ifCond .ne 46, 3) := by decide +kernel
theorem d_M_finds_76 : decode (ab_bc mt_M_finds) 76 = .ok (.aload_n 0, 1) := by decide +kernel
theorem d_M_finds_77 : decode (ab_bc mt_M_finds) 77 = .ok (.getfield 61, 3) := by decide +kernel
theorem d_M_finds_80 : decode (ab_bc mt_M_finds) 80 = .ok (.iload 4, 2) := by decide +kernel
theorem d_M_finds_82 : decode (ab_bc mt_M_finds) 82 = .ok (.iaload, 1) := by decide +kernel
theorem d_M_finds_83 : decode (ab_bc mt_M_finds) 83 = .ok (.iload 6, 2) := by decide +kernel
theorem d_M_finds_85 : decode (ab_bc mt_M_finds) 85 = .ok (.if_icmp .ne 6, 3) := by decide +kernel
theorem d_M_finds_88 : decode (ab_bc mt_M_finds) 88 = .ok (.goto 31, 3) := by decide +kernel
theorem d_M_finds_91 : decode (ab_bc mt_M_finds) 91 = .ok (.aload_n 0, 1) := by decide +kernel
theorem d_M_finds_92 : decode (ab_bc mt_M_finds) 92 = .ok (.iload 5, 2) := by decide +kernel
theorem d_M_finds_94 : decode (ab_bc mt_M_finds) 94 = .ok (.iload_n 2, 1) := by decide +kernel
theorem d_M_finds_95 : decode (ab_bc mt_M_finds) 95 = .ok (.aload_n 3, 1) := by decide +kernel
theorem d_M_finds_96 : decode (ab_bc mt_M_finds) 96 = .ok (.invokevirtual 334, 3) := by decide +kernel
theorem d_M_finds_99 : decode (ab_bc mt_M_finds) 99 = .ok (.ifCond .ne 6, 3) := by decide +kernel
theorem d_M_finds_102 : decode (ab_bc mt_M_finds) 102 = .ok (.goto 17, 3) := by decide +kernel
theorem d_M_finds_105 : decode (ab_bc mt_M_finds) 105 = .ok (.aload_n 0, 1) := by decide +kernel
theorem d_M_finds_106 : decode (ab_bc mt_M_finds) 106 = .ok (.getfield 61, 3) := by decide +kernel
theorem d_M_finds_109 : decode (ab_bc mt_M_finds) 109 = .ok (.iload 4, 2) := by decide +kernel
theorem d_M_finds_111 : decode (ab_bc mt_M_finds) 111 = .ok (.dup2, 1) := by decide +kernel
theorem d_M_finds_112 : decode (ab_bc mt_M_finds) 112 = .ok (.iaload, 1) := by decide +kernel
theorem d_M_finds_113 : decode (ab_bc mt_M_finds) 113 = .ok (.iload 6, 2) := by decide +kernel
theorem d_M_finds_115 : decode (ab_bc mt_M_finds) 115 = .ok (.iadd, 1) := by decide +kernel
theorem d_M_finds_116 : decode (ab_bc mt_M_finds) 116 = .ok (.iastore, 1) := by decide +kernel
theorem d_M_finds_117 : decode (ab_bc mt_M_finds) 117 = .ok (.iconst 1, 1) := by decide +kernel
theorem d_M_finds_118 : decode (ab_bc mt_M_finds) 118 = .ok (.ireturn, 1) := by decide +kernel
theorem d_M_finds_119 : decode (ab_bc mt_M_finds) 119 = .ok (.iinc 4 1, 3) := by decide +kernel
theorem d_M_finds_122 : decode (ab_bc mt_M_finds) 122 = .ok (.goto (-115), 3) := by decide +kernel
theorem d_M_finds_125 : decode (ab_bc mt_M_finds) 125 = .ok (.iload_n 1, 1) := by decide +kernel
theorem d_M_finds_126 : decode (ab_bc mt_M_finds) 126 = .ok (.iload_n 2, 1) := by decide +kernel
theorem d_M_finds_127 : decode (ab_bc mt_M_finds) 127 = .ok (.if_icmp .ne 7, 3) := by decide +kernel
theorem d_M_finds_130 : decode (ab_bc mt_M_finds) 130 = .ok (.iconst 1, 1) := by decide +kernel
theorem d_M_finds_131 : decode (ab_bc mt_M_finds) 131 = .ok (.goto 4, 3) := by decide +kernel
theorem d_M_finds_134 : decode (ab_bc mt_M_finds) 134 = .ok (.iconst 0, 1) := by decide +kernel
theorem d_M_finds_135 : decode (ab_bc mt_M_finds) 135 = .ok (.ireturn, 1) := by decide +kernel
-- CableKeeperModel.finds(II[Z)Z over mx, mx_metSites
theorem q_M_finds_0 {w : ab_Wd} {d n nc ns : Nat} {I : Nat → Nat → Int32} {L : Nat → Nat → Int64} {res : ab_Re} (v1 : Int32) (v2 : Int32) (hc : nc ≤ res.2.2.2.2.2.1) (hs : ns ≤ res.2.2.2.2.2.2)
    (h : (vp_in v1 10) ∧ ab_E w (d + 1) mt_M_finds 7 [.ref mx, .int v1, .int v2, .ref mx_metSites, .int 0, .null, .null] [] ((ab_up I mx_metSites v1.toNatClampNeg (vp_nar .boolean 1)), L, ab_RR, n, nc, ns) res) : ab_E w (d + 1) mt_M_finds 0 [.ref mx, .int v1, .int v2, .ref mx_metSites, .null, .null, .null] [] (I, L, ab_RR, n, nc, ns) res := by
  refine ab_aload_n (i := 3) d_M_finds_0 rfl rfl ?_
  refine ab_iload_n (i := 1) d_M_finds_1 rfl rfl ?_
  refine ab_iconst (v := 1) d_M_finds_2 rfl ?_
  have g1 := h.1; have h := h.2
  refine ab_zast d_M_finds_3 rfl rfl g1 ?_
  refine ab_iconst (v := 0) d_M_finds_4 rfl ?_
  refine ab_istore (i := 4) d_M_finds_5 (by decide) (Or.inr rfl) ?_
  exact h
theorem q_M_finds_7 {w : ab_Wd} {d n nc ns : Nat} {I : Nat → Nat → Int32} {L : Nat → Nat → Int64} {res : ab_Re} (v1 : Int32) (v2 : Int32) (v4 : Int32) (hc : nc ≤ res.2.2.2.2.2.1) (hs : ns ≤ res.2.2.2.2.2.2)
    (h : ∃ (r1 : Int32), ab_C w d mt_M_many [.ref mx] (I, L, ab_RR, n, nc, ns) (.inl (some (.int r1)), (I, L, ab_RR, n, nc, ns)) ∧ ((r1 ≤ v4 → (ab_E w (d + 1) mt_M_finds 125 [.ref mx, .int v1, .int v2, .ref mx_metSites, .int v4, .null, .null] [] (I, L, ab_RR, n, nc, ns) res)) ∧ (¬ r1 ≤ v4 → ((v1 = v2 → (ab_E w (d + 1) mt_M_finds 125 [.ref mx, .int v1, .int v2, .ref mx_metSites, .int v4, .null, .null] [] (I, L, ab_RR, n, nc, ns) res)) ∧ (¬ v1 = v2 → (∃ (r4 : Int32), ab_C w d mt_M_isSound [.ref mx, .int v4] (I, L, ab_RR, n, nc, ns) (.inl (some (.int r4)), (I, L, ab_RR, n, nc, ns)) ∧ ((r4 = 0 → (ab_E w (d + 1) mt_M_finds 41 [.ref mx, .int v1, .int v2, .ref mx_metSites, .int v4, .null, .null] [.int (-1)] (I, L, ab_RR, n, nc, ns) res)) ∧ (¬ r4 = 0 → (∃ (r6 : Int32), ab_C w d mt_M_otherEnd [.ref mx, .int v4, .int v1] (I, L, ab_RR, n, nc, ns) (.inl (some (.int r6)), (I, L, ab_RR, n, nc, ns)) ∧ ab_E w (d + 1) mt_M_finds 41 [.ref mx, .int v1, .int v2, .ref mx_metSites, .int v4, .null, .null] [.int r6] (I, L, ab_RR, n, nc, ns) res))))))))) : ab_E w (d + 1) mt_M_finds 7 [.ref mx, .int v1, .int v2, .ref mx_metSites, .int v4, .null, .null] [] (I, L, ab_RR, n, nc, ns) res := by
  refine ab_iload (i := 4) d_M_finds_7 rfl ?_
  refine ab_aload_n (i := 0) d_M_finds_9 rfl rfl ?_
  obtain ⟨r1, hC, h⟩ := h
  refine ab_callV (me2 := mt_M_many) (b := mx) (as := []) (st := [.int v4]) (rv := (some (.int r1))) (M2 := (I, L, ab_RR, n, nc, ns)) d_M_finds_10 ce_M_many v_1635 v_1637 v_79 (by decide) rfl (Nat.le_of_ble_eq_true rfl) hC (Nat.le_refl _) (Nat.le_refl _) hc hs (fun j h9 => by cases h9) (fun _ _ => rfl) ?_
  show ab_E w (d + 1) mt_M_finds 13 [.ref mx, .int v1, .int v2, .ref mx_metSites, .int v4, .null, .null] [.int r1, .int v4] (I, L, ab_RR, n, nc, ns) res
  refine ab_icmp_ge (tgt := 125) d_M_finds_13 (by decide) (fun c2 => ?_) (fun c2 => ?_)
  · have h := h.1 c2
    exact h
  · have h := h.2 c2
    refine ab_iload_n (i := 1) d_M_finds_16 rfl rfl ?_
    refine ab_iload_n (i := 2) d_M_finds_17 rfl rfl ?_
    refine ab_icmp_eq (tgt := 125) d_M_finds_18 (by decide) (fun c3 => ?_) (fun c3 => ?_)
    · have h := h.1 c3
      exact h
    · have h := h.2 c3
      refine ab_aload_n (i := 0) d_M_finds_21 rfl rfl ?_
      refine ab_iload (i := 4) d_M_finds_22 rfl ?_
      obtain ⟨r4, hC, h⟩ := h
      refine ab_callV (me2 := mt_M_isSound) (b := mx) (as := [.int v4]) (st := []) (rv := (some (.int r4))) (M2 := (I, L, ab_RR, n, nc, ns)) d_M_finds_24 ce_M_isSound v_1679 v_1681 v_89 (by decide) rfl (Nat.le_of_ble_eq_true rfl) hC (Nat.le_refl _) (Nat.le_refl _) hc hs (fun j h9 => by cases h9) (fun _ _ => rfl) ?_
      show ab_E w (d + 1) mt_M_finds 27 [.ref mx, .int v1, .int v2, .ref mx_metSites, .int v4, .null, .null] [.int r4] (I, L, ab_RR, n, nc, ns) res
      refine ab_if_eq (tgt := 40) d_M_finds_27 (by decide) (fun c5 => ?_) (fun c5 => ?_)
      · have h := h.1 c5
        refine ab_iconst (v := (-1)) d_M_finds_40 rfl ?_
        exact h
      · have h := h.2 c5
        refine ab_aload_n (i := 0) d_M_finds_30 rfl rfl ?_
        refine ab_iload (i := 4) d_M_finds_31 rfl ?_
        refine ab_iload_n (i := 1) d_M_finds_33 rfl rfl ?_
        obtain ⟨r6, hC, h⟩ := h
        refine ab_callV (me2 := mt_M_otherEnd) (b := mx) (as := [.int v4, .int v1]) (st := []) (rv := (some (.int r6))) (M2 := (I, L, ab_RR, n, nc, ns)) d_M_finds_34 ce_M_otherEnd v_1691 v_1693 v_92 (by decide) rfl (Nat.le_of_ble_eq_true rfl) hC (Nat.le_refl _) (Nat.le_refl _) hc hs (fun j h9 => by cases h9) (fun _ _ => rfl) ?_
        show ab_E w (d + 1) mt_M_finds 37 [.ref mx, .int v1, .int v2, .ref mx_metSites, .int v4, .null, .null] [.int r6] (I, L, ab_RR, n, nc, ns) res
        refine ab_goto (tgt := 41) d_M_finds_37 (by decide) ?_
        exact h
theorem q_M_finds_41 {w : ab_Wd} {d n nc ns : Nat} {I : Nat → Nat → Int32} {L : Nat → Nat → Int64} {res : ab_Re} (v1 : Int32) (v2 : Int32) (v4 : Int32) (s0 : Int32) (hc : nc ≤ res.2.2.2.2.2.1) (hs : ns ≤ res.2.2.2.2.2.2)
    (h : (vp_in (3 + v4) 399) ∧ ((¬ (I mx_now (3 + v4).toNatClampNeg) = v1 → (ab_E w (d + 1) mt_M_finds 61 [.ref mx, .int v1, .int v2, .ref mx_metSites, .int v4, .int s0, .null] [.int (-1)] (I, L, ab_RR, n, nc, ns) res)) ∧ ((I mx_now (3 + v4).toNatClampNeg) = v1 → (ab_E w (d + 1) mt_M_finds 61 [.ref mx, .int v1, .int v2, .ref mx_metSites, .int v4, .int s0, .null] [.int 1] (I, L, ab_RR, n, nc, ns) res)))) : ab_E w (d + 1) mt_M_finds 41 [.ref mx, .int v1, .int v2, .ref mx_metSites, .int v4, .null, .null] [.int s0] (I, L, ab_RR, n, nc, ns) res := by
  refine ab_istore (i := 5) d_M_finds_41 (by decide) (Or.inr rfl) ?_
  refine ab_aload_n (i := 0) d_M_finds_43 rfl rfl ?_
  refine ab_getR (ci := 11) (k := 4) (j := mx_now) d_M_finds_44 v_1372 rfl (by decide) (by decide) rfl r_mx_4 ?_
  refine ab_iconst (v := 3) d_M_finds_47 rfl ?_
  refine ab_iload (i := 4) d_M_finds_48 rfl ?_
  refine ab_iadd d_M_finds_50 ?_
  have g1 := h.1; have h := h.2
  refine ab_iald d_M_finds_51 rfl rfl g1 ?_
  refine ab_iload_n (i := 1) d_M_finds_52 rfl rfl ?_
  refine ab_icmp_ne (tgt := 60) d_M_finds_53 (by decide) (fun c2 => ?_) (fun c2 => ?_)
  · have h := h.1 c2
    refine ab_iconst (v := (-1)) d_M_finds_60 rfl ?_
    exact h
  · have h := h.2 c2
    refine ab_iconst (v := 1) d_M_finds_56 rfl ?_
    refine ab_goto (tgt := 61) d_M_finds_57 (by decide) ?_
    exact h
theorem q_M_finds_61 {w : ab_Wd} {d n nc ns : Nat} {I : Nat → Nat → Int32} {L : Nat → Nat → Int64} {res : ab_Re} (v1 : Int32) (v2 : Int32) (v4 : Int32) (v5 : Int32) (s0 : Int32) (hc : nc ≤ res.2.2.2.2.2.1) (hs : ns ≤ res.2.2.2.2.2.2)
    (h : ((v5 = (-1) → (ab_E w (d + 1) mt_M_finds 119 [.ref mx, .int v1, .int v2, .ref mx_metSites, .int v4, .int v5, .int s0] [] (I, L, ab_RR, n, nc, ns) res)) ∧ (¬ v5 = (-1) → ((vp_in v5 10) ∧ ((¬ (I mx_metSites v5.toNatClampNeg) = 0 → (ab_E w (d + 1) mt_M_finds 119 [.ref mx, .int v1, .int v2, .ref mx_metSites, .int v4, .int v5, .int s0] [] (I, L, ab_RR, n, nc, ns) res)) ∧ ((I mx_metSites v5.toNatClampNeg) = 0 → ((vp_in v4 24) ∧ ((¬ (I mx_gone v4.toNatClampNeg) = s0 → (∃ (r6 : Int32) (I7 : Nat → Nat → Int32), ab_C w d mt_M_finds [.ref mx, .int v5, .int v2, .ref mx_metSites] (I, L, ab_RR, n, nc, ns) (.inl (some (.int r6)), (I7, L, ab_RR, n, nc, ns)) ∧ ((¬ r6 = 0 → (res = (.inl (some (.int 1)), ((ab_up I7 mx_gone v4.toNatClampNeg ((I7 mx_gone v4.toNatClampNeg) + s0)), L, ab_RR, n, nc, ns)))) ∧ (r6 = 0 → (ab_E w (d + 1) mt_M_finds 119 [.ref mx, .int v1, .int v2, .ref mx_metSites, .int v4, .int v5, .int s0] [] (I7, L, ab_RR, n, nc, ns) res))))) ∧ ((I mx_gone v4.toNatClampNeg) = s0 → (ab_E w (d + 1) mt_M_finds 119 [.ref mx, .int v1, .int v2, .ref mx_metSites, .int v4, .int v5, .int s0] [] (I, L, ab_RR, n, nc, ns) res)))))))))) : ab_E w (d + 1) mt_M_finds 61 [.ref mx, .int v1, .int v2, .ref mx_metSites, .int v4, .int v5, .null] [.int s0] (I, L, ab_RR, n, nc, ns) res := by
  refine ab_istore (i := 6) d_M_finds_61 (by decide) (Or.inr rfl) ?_
  refine ab_iload (i := 5) d_M_finds_63 rfl ?_
  refine ab_iconst (v := (-1)) d_M_finds_65 rfl ?_
  refine ab_icmp_eq (tgt := 119) d_M_finds_66 (by decide) (fun c1 => ?_) (fun c1 => ?_)
  · have h := h.1 c1
    exact h
  · have h := h.2 c1
    refine ab_aload_n (i := 3) d_M_finds_69 rfl rfl ?_
    refine ab_iload (i := 5) d_M_finds_70 rfl ?_
    have g2 := h.1; have h := h.2
    refine ab_zald d_M_finds_72 rfl rfl g2 ?_
    refine ab_if_ne (tgt := 119) d_M_finds_73 (by decide) (fun c3 => ?_) (fun c3 => ?_)
    · have h := h.1 c3
      exact h
    · have h := h.2 c3
      refine ab_aload_n (i := 0) d_M_finds_76 rfl rfl ?_
      refine ab_getR (ci := 11) (k := 29) (j := mx_gone) d_M_finds_77 v_1397 rfl (by decide) (by decide) rfl r_mx_29 ?_
      refine ab_iload (i := 4) d_M_finds_80 rfl ?_
      have g4 := h.1; have h := h.2
      refine ab_iald d_M_finds_82 rfl rfl g4 ?_
      refine ab_iload (i := 6) d_M_finds_83 rfl ?_
      refine ab_icmp_ne (tgt := 91) d_M_finds_85 (by decide) (fun c5 => ?_) (fun c5 => ?_)
      · have h := h.1 c5
        refine ab_aload_n (i := 0) d_M_finds_91 rfl rfl ?_
        refine ab_iload (i := 5) d_M_finds_92 rfl ?_
        refine ab_iload_n (i := 2) d_M_finds_94 rfl rfl ?_
        refine ab_aload_n (i := 3) d_M_finds_95 rfl rfl ?_
        obtain ⟨r6, I7, hC, h⟩ := h
        refine ab_callV (me2 := mt_M_finds) (b := mx) (as := [.int v5, .int v2, .ref mx_metSites]) (st := []) (rv := (some (.int r6))) (M2 := (I7, L, ab_RR, n, nc, ns)) d_M_finds_96 ce_M_finds v_1803 v_1805 v_114 (by decide) rfl (Nat.le_of_ble_eq_true rfl) hC (Nat.le_refl _) (Nat.le_refl _) hc hs (fun j h9 => by cases h9) (fun _ _ => rfl) ?_
        show ab_E w (d + 1) mt_M_finds 99 [.ref mx, .int v1, .int v2, .ref mx_metSites, .int v4, .int v5, .int s0] [.int r6] (I7, L, ab_RR, n, nc, ns) res
        refine ab_if_ne (tgt := 105) d_M_finds_99 (by decide) (fun c8 => ?_) (fun c8 => ?_)
        · have h := h.1 c8
          refine ab_aload_n (i := 0) d_M_finds_105 rfl rfl ?_
          refine ab_getR (ci := 11) (k := 29) (j := mx_gone) d_M_finds_106 v_1397 rfl (by decide) (by decide) rfl r_mx_29 ?_
          refine ab_iload (i := 4) d_M_finds_109 rfl ?_
          refine ab_dup2 d_M_finds_111 ?_
          refine ab_iald d_M_finds_112 rfl rfl g4 ?_
          refine ab_iload (i := 6) d_M_finds_113 rfl ?_
          refine ab_iadd d_M_finds_115 ?_
          refine ab_iast d_M_finds_116 rfl rfl g4 ?_
          refine ab_iconst (v := 1) d_M_finds_117 rfl ?_
          exact ab_iret (ty := .boolean) d_M_finds_118 rfl rfl h
        · have h := h.2 c8
          refine ab_goto (tgt := 119) d_M_finds_102 (by decide) ?_
          exact h
      · have h := h.2 c5
        refine ab_goto (tgt := 119) d_M_finds_88 (by decide) ?_
        exact h
theorem q_M_finds_119 {w : ab_Wd} {d n nc ns : Nat} {I : Nat → Nat → Int32} {L : Nat → Nat → Int64} {res : ab_Re} (v1 : Int32) (v2 : Int32) (v4 : Int32) (v5 : Int32) (v6 : Int32) (hc : nc ≤ res.2.2.2.2.2.1) (hs : ns ≤ res.2.2.2.2.2.2)
    (h : ab_E w (d + 1) mt_M_finds 7 [.ref mx, .int v1, .int v2, .ref mx_metSites, .int (v4 + 1), .null, .null] [] (I, L, ab_RR, n, nc, ns) res) : ab_E w (d + 1) mt_M_finds 119 [.ref mx, .int v1, .int v2, .ref mx_metSites, .int v4, .int v5, .int v6] [] (I, L, ab_RR, n, nc, ns) res := by
  refine ab_iinc (i := 4) (v := (v4 + 1)) d_M_finds_119 rfl rfl (by decide) (Or.inr rfl) ?_
  refine ab_goto (tgt := 7) d_M_finds_122 (by decide) ?_
  refine ab_drop 5 ?_
  refine ab_drop 6 ?_
  exact h
theorem q_M_finds_125 {w : ab_Wd} {d n nc ns : Nat} {I : Nat → Nat → Int32} {L : Nat → Nat → Int64} {res : ab_Re} (v1 : Int32) (v2 : Int32) (v4 : Int32) (hc : nc ≤ res.2.2.2.2.2.1) (hs : ns ≤ res.2.2.2.2.2.2)
    (h : ((¬ v1 = v2 → (ab_E w (d + 1) mt_M_finds 135 [.ref mx, .int v1, .int v2, .ref mx_metSites, .int v4, .null, .null] [.int 0] (I, L, ab_RR, n, nc, ns) res)) ∧ (v1 = v2 → (ab_E w (d + 1) mt_M_finds 135 [.ref mx, .int v1, .int v2, .ref mx_metSites, .int v4, .null, .null] [.int 1] (I, L, ab_RR, n, nc, ns) res)))) : ab_E w (d + 1) mt_M_finds 125 [.ref mx, .int v1, .int v2, .ref mx_metSites, .int v4, .null, .null] [] (I, L, ab_RR, n, nc, ns) res := by
  refine ab_iload_n (i := 1) d_M_finds_125 rfl rfl ?_
  refine ab_iload_n (i := 2) d_M_finds_126 rfl rfl ?_
  refine ab_icmp_ne (tgt := 134) d_M_finds_127 (by decide) (fun c1 => ?_) (fun c1 => ?_)
  · have h := h.1 c1
    refine ab_iconst (v := 0) d_M_finds_134 rfl ?_
    exact h
  · have h := h.2 c1
    refine ab_iconst (v := 1) d_M_finds_130 rfl ?_
    refine ab_goto (tgt := 135) d_M_finds_131 (by decide) ?_
    exact h
theorem q_M_finds_135 {w : ab_Wd} {d n nc ns : Nat} {I : Nat → Nat → Int32} {L : Nat → Nat → Int64} {res : ab_Re} (v1 : Int32) (v2 : Int32) (v4 : Int32) (s0 : Int32) (hc : nc ≤ res.2.2.2.2.2.1) (hs : ns ≤ res.2.2.2.2.2.2)
    (h : (narrow .boolean (.int s0) = .int s0) ∧ res = (.inl (some (.int s0)), (I, L, ab_RR, n, nc, ns))) : ab_E w (d + 1) mt_M_finds 135 [.ref mx, .int v1, .int v2, .ref mx_metSites, .int v4, .null, .null] [.int s0] (I, L, ab_RR, n, nc, ns) res := by
  have g := h.1; have h := h.2
  exact ab_iret (ty := .boolean) d_M_finds_135 rfl g h
theorem d_M_isIn_0 : decode (ab_bc mt_M_isIn) 0 = .ok (.iload_n 0, 1) := by decide +kernel
theorem d_M_isIn_1 : decode (ab_bc mt_M_isIn) 1 = .ok (.iload_n 1, 1) := by decide +kernel
theorem d_M_isIn_2 : decode (ab_bc mt_M_isIn) 2 = .ok (.if_icmp .lt 12, 3) := by decide +kernel
theorem d_M_isIn_5 : decode (ab_bc mt_M_isIn) 5 = .ok (.iload_n 0, 1) := by decide +kernel
theorem d_M_isIn_6 : decode (ab_bc mt_M_isIn) 6 = .ok (.iload_n 2, 1) := by decide +kernel
theorem d_M_isIn_7 : decode (ab_bc mt_M_isIn) 7 = .ok (.if_icmp .gt 7, 3) := by decide +kernel
theorem d_M_isIn_10 : decode (ab_bc mt_M_isIn) 10 = .ok (.iconst 1, 1) := by decide +kernel
theorem d_M_isIn_11 : decode (ab_bc mt_M_isIn) 11 = .ok (.goto 4, 3) := by decide +kernel
theorem d_M_isIn_14 : decode (ab_bc mt_M_isIn) 14 = .ok (.iconst 0, 1) := by decide +kernel
theorem d_M_isIn_15 : decode (ab_bc mt_M_isIn) 15 = .ok (.ireturn, 1) := by decide +kernel
-- CableKeeperModel.isIn(III)Z over 
theorem q_M_isIn_0 {w : ab_Wd} {d n nc ns : Nat} {I : Nat → Nat → Int32} {L : Nat → Nat → Int64} {res : ab_Re} (v0 : Int32) (v1 : Int32) (v2 : Int32) (hc : nc ≤ res.2.2.2.2.2.1) (hs : ns ≤ res.2.2.2.2.2.2)
    (h : ((v0 < v1 → (ab_E w d mt_M_isIn 14 [.int v0, .int v1, .int v2] [] (I, L, ab_RR, n, nc, ns) res)) ∧ (¬ v0 < v1 → ((v2 < v0 → (ab_E w d mt_M_isIn 14 [.int v0, .int v1, .int v2] [] (I, L, ab_RR, n, nc, ns) res)) ∧ (¬ v2 < v0 → (ab_E w d mt_M_isIn 15 [.int v0, .int v1, .int v2] [.int 1] (I, L, ab_RR, n, nc, ns) res)))))) : ab_E w d mt_M_isIn 0 [.int v0, .int v1, .int v2] [] (I, L, ab_RR, n, nc, ns) res := by
  refine ab_iload_n (i := 0) d_M_isIn_0 rfl rfl ?_
  refine ab_iload_n (i := 1) d_M_isIn_1 rfl rfl ?_
  refine ab_icmp_lt (tgt := 14) d_M_isIn_2 (by decide) (fun c1 => ?_) (fun c1 => ?_)
  · have h := h.1 c1
    exact h
  · have h := h.2 c1
    refine ab_iload_n (i := 0) d_M_isIn_5 rfl rfl ?_
    refine ab_iload_n (i := 2) d_M_isIn_6 rfl rfl ?_
    refine ab_icmp_gt (tgt := 14) d_M_isIn_7 (by decide) (fun c2 => ?_) (fun c2 => ?_)
    · have h := h.1 c2
      exact h
    · have h := h.2 c2
      refine ab_iconst (v := 1) d_M_isIn_10 rfl ?_
      refine ab_goto (tgt := 15) d_M_isIn_11 (by decide) ?_
      exact h
theorem q_M_isIn_14 {w : ab_Wd} {d n nc ns : Nat} {I : Nat → Nat → Int32} {L : Nat → Nat → Int64} {res : ab_Re} (v0 : Int32) (v1 : Int32) (v2 : Int32) (hc : nc ≤ res.2.2.2.2.2.1) (hs : ns ≤ res.2.2.2.2.2.2)
    (h : ab_E w d mt_M_isIn 15 [.int v0, .int v1, .int v2] [.int 0] (I, L, ab_RR, n, nc, ns) res) : ab_E w d mt_M_isIn 14 [.int v0, .int v1, .int v2] [] (I, L, ab_RR, n, nc, ns) res := by
  refine ab_iconst (v := 0) d_M_isIn_14 rfl ?_
  exact h
theorem q_M_isIn_15 {w : ab_Wd} {d n nc ns : Nat} {I : Nat → Nat → Int32} {L : Nat → Nat → Int64} {res : ab_Re} (v0 : Int32) (v1 : Int32) (v2 : Int32) (s0 : Int32) (hc : nc ≤ res.2.2.2.2.2.1) (hs : ns ≤ res.2.2.2.2.2.2)
    (h : (narrow .boolean (.int s0) = .int s0) ∧ res = (.inl (some (.int s0)), (I, L, ab_RR, n, nc, ns))) : ab_E w d mt_M_isIn 15 [.int v0, .int v1, .int v2] [.int s0] (I, L, ab_RR, n, nc, ns) res := by
  have g := h.1; have h := h.2
  exact ab_iret (ty := .boolean) d_M_isIn_15 rfl g h
-- CableKeeperModel.copyTo([I[I)V over mx_level, mx_piece
theorem q_M_copyTo_1_0 {w : ab_Wd} {d n nc ns : Nat} {I : Nat → Nat → Int32} {L : Nat → Nat → Int64} {res : ab_Re}  (hc : nc ≤ res.2.2.2.2.2.1) (hs : ns ≤ res.2.2.2.2.2.2)
    (h : ab_E w d mt_M_copyTo 2 [.ref mx_level, .ref mx_piece, .int 0] [] (I, L, ab_RR, n, nc, ns) res) : ab_E w d mt_M_copyTo 0 [.ref mx_level, .ref mx_piece, .null] [] (I, L, ab_RR, n, nc, ns) res := by
  refine ab_iconst (v := 0) d_M_copyTo_0 rfl ?_
  refine ab_istore_n (i := 2) d_M_copyTo_1 rfl (by decide) (Or.inr rfl) ?_
  exact h
theorem q_M_copyTo_1_2 {w : ab_Wd} {d n nc ns : Nat} {I : Nat → Nat → Int32} {L : Nat → Nat → Int64} {res : ab_Re} (v2 : Int32) (hc : nc ≤ res.2.2.2.2.2.1) (hs : ns ≤ res.2.2.2.2.2.2)
    (h : ((10 ≤ v2 → (res = (.inl none, (I, L, ab_RR, n, nc, ns)))) ∧ (¬ 10 ≤ v2 → ((vp_in v2 10) ∧ ab_E w d mt_M_copyTo 2 [.ref mx_level, .ref mx_piece, .int (v2 + 1)] [] ((ab_up I mx_level v2.toNatClampNeg (I mx_piece v2.toNatClampNeg)), L, ab_RR, n, nc, ns) res)))) : ab_E w d mt_M_copyTo 2 [.ref mx_level, .ref mx_piece, .int v2] [] (I, L, ab_RR, n, nc, ns) res := by
  refine ab_iload_n (i := 2) d_M_copyTo_2 rfl rfl ?_
  refine ab_aload_n (i := 0) d_M_copyTo_3 rfl rfl ?_
  refine ab_alen (v := 10) d_M_copyTo_4 (by decide) (by decide) rfl ?_
  refine ab_icmp_ge (tgt := 20) d_M_copyTo_5 (by decide) (fun c1 => ?_) (fun c1 => ?_)
  · have h := h.1 c1
    exact ab_vret d_M_copyTo_20 rfl h
  · have h := h.2 c1
    refine ab_aload_n (i := 0) d_M_copyTo_8 rfl rfl ?_
    refine ab_iload_n (i := 2) d_M_copyTo_9 rfl rfl ?_
    refine ab_aload_n (i := 1) d_M_copyTo_10 rfl rfl ?_
    refine ab_iload_n (i := 2) d_M_copyTo_11 rfl rfl ?_
    have g2 := h.1; have h := h.2
    refine ab_iald d_M_copyTo_12 rfl rfl g2 ?_
    refine ab_iast d_M_copyTo_13 rfl rfl g2 ?_
    refine ab_iinc (i := 2) (v := (v2 + 1)) d_M_copyTo_14 rfl rfl (by decide) (Or.inr rfl) ?_
    refine ab_goto (tgt := 2) d_M_copyTo_17 (by decide) ?_
    exact h
theorem d_M_tellWord_0 : decode (ab_bc mt_M_tellWord) 0 = .ok (.iconst 0, 1) := by decide +kernel
theorem d_M_tellWord_1 : decode (ab_bc mt_M_tellWord) 1 = .ok (.istore_n 2, 1) := by decide +kernel
theorem d_M_tellWord_2 : decode (ab_bc mt_M_tellWord) 2 = .ok (.iload_n 2, 1) := by decide +kernel
theorem d_M_tellWord_3 : decode (ab_bc mt_M_tellWord) 3 = .ok (.aload_n 1, 1) := by decide +kernel
theorem d_M_tellWord_4 : decode (ab_bc mt_M_tellWord) 4 = .ok (.invokevirtual 156, 3) := by decide +kernel
theorem d_M_tellWord_7 : decode (ab_bc mt_M_tellWord) 7 = .ok (.if_icmp .ge 18, 3) := by decide +kernel
theorem d_M_tellWord_10 : decode (ab_bc mt_M_tellWord) 10 = .ok (.aload_n 0, 1) := by decide +kernel
theorem d_M_tellWord_11 : decode (ab_bc mt_M_tellWord) 11 = .ok (.aload_n 1, 1) := by decide +kernel
theorem d_M_tellWord_12 : decode (ab_bc mt_M_tellWord) 12 = .ok (.iload_n 2, 1) := by decide +kernel
theorem d_M_tellWord_13 : decode (ab_bc mt_M_tellWord) 13 = .ok (.invokevirtual 160, 3) := by decide +kernel
theorem d_M_tellWord_16 : decode (ab_bc mt_M_tellWord) 16 = .ok (.invokevirtual 397, 3) := by decide +kernel
theorem d_M_tellWord_19 : decode (ab_bc mt_M_tellWord) 19 = .ok (.iinc 2 1, 3) := by decide +kernel
theorem d_M_tellWord_22 : decode (ab_bc mt_M_tellWord) 22 = .ok (.goto (-20), 3) := by decide +kernel
theorem d_M_tellWord_25 : decode (ab_bc mt_M_tellWord) 25 = .ok (.return_, 1) := by decide +kernel
-- CableKeeperModel.tellWord(Ljava/lang/String;)V over mx, S:j
theorem q_M_tellWord_0 {w : ab_Wd} {d n nc ns : Nat} {I : Nat → Nat → Int32} {L : Nat → Nat → Int64} {res : ab_Re} {j : Nat} (hj : j < 8) (hc : nc ≤ res.2.2.2.2.2.1) (hs : ns ≤ res.2.2.2.2.2.2)
    (h : ab_E w (d + 1) mt_M_tellWord 2 [.ref mx, .ref (64 * j + 32), .int 0] [] (I, L, ab_RR, n, nc, ns) res) : ab_E w (d + 1) mt_M_tellWord 0 [.ref mx, .ref (64 * j + 32), .null] [] (I, L, ab_RR, n, nc, ns) res := by
  refine ab_iconst (v := 0) d_M_tellWord_0 rfl ?_
  refine ab_istore_n (i := 2) d_M_tellWord_1 rfl (by decide) (Or.inr rfl) ?_
  exact h
theorem q_M_tellWord_2 {w : ab_Wd} {d n nc ns : Nat} {I : Nat → Nat → Int32} {L : Nat → Nat → Int64} {res : ab_Re} {j : Nat} (hj : j < 8) (v2 : Int32) (hc : nc ≤ res.2.2.2.2.2.1) (hs : ns ≤ res.2.2.2.2.2.2)
    (h : ∃ (r1 : Int32), ab_C w d mt_Str_length [.ref (64 * j + 32)] (I, L, ab_RR, n, nc, ns) (.inl (some (.int r1)), (I, L, ab_RR, n, nc, ns)) ∧ ((r1 ≤ v2 → (res = (.inl none, (I, L, ab_RR, n, nc, ns)))) ∧ (¬ r1 ≤ v2 → (∃ (r3 : Int32), ab_C w d mt_Str_charAt [.ref (64 * j + 32), .int v2] (I, L, ab_RR, n, nc, ns) (.inl (some (.int r3)), (I, L, ab_RR, n, nc, ns)) ∧ ∃ (I5 : Nat → Nat → Int32), ab_C w d mt_M_tellByte [.ref mx, .int r3] (I, L, ab_RR, n, nc, ns) (.inl none, (I5, L, ab_RR, n, nc, ns)) ∧ ab_E w (d + 1) mt_M_tellWord 2 [.ref mx, .ref (64 * j + 32), .int (v2 + 1)] [] (I5, L, ab_RR, n, nc, ns) res)))) : ab_E w (d + 1) mt_M_tellWord 2 [.ref mx, .ref (64 * j + 32), .int v2] [] (I, L, ab_RR, n, nc, ns) res := by
  refine ab_iload_n (i := 2) d_M_tellWord_2 rfl rfl ?_
  refine ab_aload_n (i := 1) d_M_tellWord_3 rfl rfl ?_
  obtain ⟨r1, hC, h⟩ := h
  refine ab_callT (me2 := mt_Str_length) (j := j) (as := []) (st := [.int v2]) (rv := (some (.int r1))) (M2 := (I, L, ab_RR, n, nc, ns)) d_M_tellWord_4 hj ce_Str_length v_1594 v_834 v_835 rfl (Nat.le_of_ble_eq_true rfl) hC (Nat.le_refl _) (Nat.le_refl _) hc hs (fun j h9 => by cases h9) (fun _ _ => rfl) ?_
  show ab_E w (d + 1) mt_M_tellWord 7 [.ref mx, .ref (64 * j + 32), .int v2] [.int r1, .int v2] (I, L, ab_RR, n, nc, ns) res
  refine ab_icmp_ge (tgt := 25) d_M_tellWord_7 (by decide) (fun c2 => ?_) (fun c2 => ?_)
  · have h := h.1 c2
    exact ab_vret d_M_tellWord_25 rfl h
  · have h := h.2 c2
    refine ab_aload_n (i := 0) d_M_tellWord_10 rfl rfl ?_
    refine ab_aload_n (i := 1) d_M_tellWord_11 rfl rfl ?_
    refine ab_iload_n (i := 2) d_M_tellWord_12 rfl rfl ?_
    obtain ⟨r3, hC, h⟩ := h
    refine ab_callT (me2 := mt_Str_charAt) (j := j) (as := [.int v2]) (st := [.ref mx]) (rv := (some (.int r3))) (M2 := (I, L, ab_RR, n, nc, ns)) d_M_tellWord_13 hj ce_Str_charAt v_1595 v_844 v_845 rfl (Nat.le_of_ble_eq_true rfl) hC (Nat.le_refl _) (Nat.le_refl _) hc hs (fun j h9 => by cases h9) (fun _ _ => rfl) ?_
    show ab_E w (d + 1) mt_M_tellWord 16 [.ref mx, .ref (64 * j + 32), .int v2] [.int r3, .ref mx] (I, L, ab_RR, n, nc, ns) res
    obtain ⟨I5, hC, h⟩ := h
    refine ab_callV (me2 := mt_M_tellByte) (b := mx) (as := [.int r3]) (st := []) (rv := none) (M2 := (I5, L, ab_RR, n, nc, ns)) d_M_tellWord_16 ce_M_tellByte v_1853 v_1855 v_121 (by decide) rfl (Nat.le_of_ble_eq_true rfl) hC (Nat.le_refl _) (Nat.le_refl _) hc hs (fun j h9 => by cases h9) (fun _ _ => rfl) ?_
    show ab_E w (d + 1) mt_M_tellWord 19 [.ref mx, .ref (64 * j + 32), .int v2] [] (I5, L, ab_RR, n, nc, ns) res
    refine ab_iinc (i := 2) (v := (v2 + 1)) d_M_tellWord_19 rfl rfl (by decide) (Or.inr rfl) ?_
    refine ab_goto (tgt := 2) d_M_tellWord_22 (by decide) ?_
    exact h
-- CableKeeperModel.copyTo([I[I)V over mx_now, mx_rowThen
theorem q_M_copyTo_2_0 {w : ab_Wd} {d n nc ns : Nat} {I : Nat → Nat → Int32} {L : Nat → Nat → Int64} {res : ab_Re}  (hc : nc ≤ res.2.2.2.2.2.1) (hs : ns ≤ res.2.2.2.2.2.2)
    (h : ab_E w d mt_M_copyTo 2 [.ref mx_now, .ref mx_rowThen, .int 0] [] (I, L, ab_RR, n, nc, ns) res) : ab_E w d mt_M_copyTo 0 [.ref mx_now, .ref mx_rowThen, .null] [] (I, L, ab_RR, n, nc, ns) res := by
  refine ab_iconst (v := 0) d_M_copyTo_0 rfl ?_
  refine ab_istore_n (i := 2) d_M_copyTo_1 rfl (by decide) (Or.inr rfl) ?_
  exact h
theorem q_M_copyTo_2_2 {w : ab_Wd} {d n nc ns : Nat} {I : Nat → Nat → Int32} {L : Nat → Nat → Int64} {res : ab_Re} (v2 : Int32) (hc : nc ≤ res.2.2.2.2.2.1) (hs : ns ≤ res.2.2.2.2.2.2)
    (h : ((399 ≤ v2 → (res = (.inl none, (I, L, ab_RR, n, nc, ns)))) ∧ (¬ 399 ≤ v2 → ((vp_in v2 399) ∧ ab_E w d mt_M_copyTo 2 [.ref mx_now, .ref mx_rowThen, .int (v2 + 1)] [] ((ab_up I mx_now v2.toNatClampNeg (I mx_rowThen v2.toNatClampNeg)), L, ab_RR, n, nc, ns) res)))) : ab_E w d mt_M_copyTo 2 [.ref mx_now, .ref mx_rowThen, .int v2] [] (I, L, ab_RR, n, nc, ns) res := by
  refine ab_iload_n (i := 2) d_M_copyTo_2 rfl rfl ?_
  refine ab_aload_n (i := 0) d_M_copyTo_3 rfl rfl ?_
  refine ab_alen (v := 399) d_M_copyTo_4 (by decide) (by decide) rfl ?_
  refine ab_icmp_ge (tgt := 20) d_M_copyTo_5 (by decide) (fun c1 => ?_) (fun c1 => ?_)
  · have h := h.1 c1
    exact ab_vret d_M_copyTo_20 rfl h
  · have h := h.2 c1
    refine ab_aload_n (i := 0) d_M_copyTo_8 rfl rfl ?_
    refine ab_iload_n (i := 2) d_M_copyTo_9 rfl rfl ?_
    refine ab_aload_n (i := 1) d_M_copyTo_10 rfl rfl ?_
    refine ab_iload_n (i := 2) d_M_copyTo_11 rfl rfl ?_
    have g2 := h.1; have h := h.2
    refine ab_iald d_M_copyTo_12 rfl rfl g2 ?_
    refine ab_iast d_M_copyTo_13 rfl rfl g2 ?_
    refine ab_iinc (i := 2) (v := (v2 + 1)) d_M_copyTo_14 rfl rfl (by decide) (Or.inr rfl) ?_
    refine ab_goto (tgt := 2) d_M_copyTo_17 (by decide) ?_
    exact h
-- CableKeeperModel.copyTo([I[I)V over mx_rowThen, mx_now
theorem q_M_copyTo_3_0 {w : ab_Wd} {d n nc ns : Nat} {I : Nat → Nat → Int32} {L : Nat → Nat → Int64} {res : ab_Re}  (hc : nc ≤ res.2.2.2.2.2.1) (hs : ns ≤ res.2.2.2.2.2.2)
    (h : ab_E w d mt_M_copyTo 2 [.ref mx_rowThen, .ref mx_now, .int 0] [] (I, L, ab_RR, n, nc, ns) res) : ab_E w d mt_M_copyTo 0 [.ref mx_rowThen, .ref mx_now, .null] [] (I, L, ab_RR, n, nc, ns) res := by
  refine ab_iconst (v := 0) d_M_copyTo_0 rfl ?_
  refine ab_istore_n (i := 2) d_M_copyTo_1 rfl (by decide) (Or.inr rfl) ?_
  exact h
theorem q_M_copyTo_3_2 {w : ab_Wd} {d n nc ns : Nat} {I : Nat → Nat → Int32} {L : Nat → Nat → Int64} {res : ab_Re} (v2 : Int32) (hc : nc ≤ res.2.2.2.2.2.1) (hs : ns ≤ res.2.2.2.2.2.2)
    (h : ((399 ≤ v2 → (res = (.inl none, (I, L, ab_RR, n, nc, ns)))) ∧ (¬ 399 ≤ v2 → ((vp_in v2 399) ∧ ab_E w d mt_M_copyTo 2 [.ref mx_rowThen, .ref mx_now, .int (v2 + 1)] [] ((ab_up I mx_rowThen v2.toNatClampNeg (I mx_now v2.toNatClampNeg)), L, ab_RR, n, nc, ns) res)))) : ab_E w d mt_M_copyTo 2 [.ref mx_rowThen, .ref mx_now, .int v2] [] (I, L, ab_RR, n, nc, ns) res := by
  refine ab_iload_n (i := 2) d_M_copyTo_2 rfl rfl ?_
  refine ab_aload_n (i := 0) d_M_copyTo_3 rfl rfl ?_
  refine ab_alen (v := 399) d_M_copyTo_4 (by decide) (by decide) rfl ?_
  refine ab_icmp_ge (tgt := 20) d_M_copyTo_5 (by decide) (fun c1 => ?_) (fun c1 => ?_)
  · have h := h.1 c1
    exact ab_vret d_M_copyTo_20 rfl h
  · have h := h.2 c1
    refine ab_aload_n (i := 0) d_M_copyTo_8 rfl rfl ?_
    refine ab_iload_n (i := 2) d_M_copyTo_9 rfl rfl ?_
    refine ab_aload_n (i := 1) d_M_copyTo_10 rfl rfl ?_
    refine ab_iload_n (i := 2) d_M_copyTo_11 rfl rfl ?_
    have g2 := h.1; have h := h.2
    refine ab_iald d_M_copyTo_12 rfl rfl g2 ?_
    refine ab_iast d_M_copyTo_13 rfl rfl g2 ?_
    refine ab_iinc (i := 2) (v := (v2 + 1)) d_M_copyTo_14 rfl rfl (by decide) (Or.inr rfl) ?_
    refine ab_goto (tgt := 2) d_M_copyTo_17 (by decide) ?_
    exact h
-- CableKeeperModel.copyTo([I[I)V over mx_imageRow, mx_now
theorem q_M_copyTo_4_0 {w : ab_Wd} {d n nc ns : Nat} {I : Nat → Nat → Int32} {L : Nat → Nat → Int64} {res : ab_Re}  (hc : nc ≤ res.2.2.2.2.2.1) (hs : ns ≤ res.2.2.2.2.2.2)
    (h : ab_E w d mt_M_copyTo 2 [.ref mx_imageRow, .ref mx_now, .int 0] [] (I, L, ab_RR, n, nc, ns) res) : ab_E w d mt_M_copyTo 0 [.ref mx_imageRow, .ref mx_now, .null] [] (I, L, ab_RR, n, nc, ns) res := by
  refine ab_iconst (v := 0) d_M_copyTo_0 rfl ?_
  refine ab_istore_n (i := 2) d_M_copyTo_1 rfl (by decide) (Or.inr rfl) ?_
  exact h
theorem q_M_copyTo_4_2 {w : ab_Wd} {d n nc ns : Nat} {I : Nat → Nat → Int32} {L : Nat → Nat → Int64} {res : ab_Re} (v2 : Int32) (hc : nc ≤ res.2.2.2.2.2.1) (hs : ns ≤ res.2.2.2.2.2.2)
    (h : ((399 ≤ v2 → (res = (.inl none, (I, L, ab_RR, n, nc, ns)))) ∧ (¬ 399 ≤ v2 → ((vp_in v2 399) ∧ ab_E w d mt_M_copyTo 2 [.ref mx_imageRow, .ref mx_now, .int (v2 + 1)] [] ((ab_up I mx_imageRow v2.toNatClampNeg (I mx_now v2.toNatClampNeg)), L, ab_RR, n, nc, ns) res)))) : ab_E w d mt_M_copyTo 2 [.ref mx_imageRow, .ref mx_now, .int v2] [] (I, L, ab_RR, n, nc, ns) res := by
  refine ab_iload_n (i := 2) d_M_copyTo_2 rfl rfl ?_
  refine ab_aload_n (i := 0) d_M_copyTo_3 rfl rfl ?_
  refine ab_alen (v := 399) d_M_copyTo_4 (by decide) (by decide) rfl ?_
  refine ab_icmp_ge (tgt := 20) d_M_copyTo_5 (by decide) (fun c1 => ?_) (fun c1 => ?_)
  · have h := h.1 c1
    exact ab_vret d_M_copyTo_20 rfl h
  · have h := h.2 c1
    refine ab_aload_n (i := 0) d_M_copyTo_8 rfl rfl ?_
    refine ab_iload_n (i := 2) d_M_copyTo_9 rfl rfl ?_
    refine ab_aload_n (i := 1) d_M_copyTo_10 rfl rfl ?_
    refine ab_iload_n (i := 2) d_M_copyTo_11 rfl rfl ?_
    have g2 := h.1; have h := h.2
    refine ab_iald d_M_copyTo_12 rfl rfl g2 ?_
    refine ab_iast d_M_copyTo_13 rfl rfl g2 ?_
    refine ab_iinc (i := 2) (v := (v2 + 1)) d_M_copyTo_14 rfl rfl (by decide) (Or.inr rfl) ?_
    refine ab_goto (tgt := 2) d_M_copyTo_17 (by decide) ?_
    exact h
-- CableKeeperModel.copyTo([I[I)V over mx_pastThen, mx_past
theorem q_M_copyTo_5_0 {w : ab_Wd} {d n nc ns : Nat} {I : Nat → Nat → Int32} {L : Nat → Nat → Int64} {res : ab_Re}  (hc : nc ≤ res.2.2.2.2.2.1) (hs : ns ≤ res.2.2.2.2.2.2)
    (h : ab_E w d mt_M_copyTo 2 [.ref mx_pastThen, .ref mx_past, .int 0] [] (I, L, ab_RR, n, nc, ns) res) : ab_E w d mt_M_copyTo 0 [.ref mx_pastThen, .ref mx_past, .null] [] (I, L, ab_RR, n, nc, ns) res := by
  refine ab_iconst (v := 0) d_M_copyTo_0 rfl ?_
  refine ab_istore_n (i := 2) d_M_copyTo_1 rfl (by decide) (Or.inr rfl) ?_
  exact h
theorem q_M_copyTo_5_2 {w : ab_Wd} {d n nc ns : Nat} {I : Nat → Nat → Int32} {L : Nat → Nat → Int64} {res : ab_Re} (v2 : Int32) (hc : nc ≤ res.2.2.2.2.2.1) (hs : ns ≤ res.2.2.2.2.2.2)
    (h : ((15960 ≤ v2 → (res = (.inl none, (I, L, ab_RR, n, nc, ns)))) ∧ (¬ 15960 ≤ v2 → ((vp_in v2 15960) ∧ ab_E w d mt_M_copyTo 2 [.ref mx_pastThen, .ref mx_past, .int (v2 + 1)] [] ((ab_up I mx_pastThen v2.toNatClampNeg (I mx_past v2.toNatClampNeg)), L, ab_RR, n, nc, ns) res)))) : ab_E w d mt_M_copyTo 2 [.ref mx_pastThen, .ref mx_past, .int v2] [] (I, L, ab_RR, n, nc, ns) res := by
  refine ab_iload_n (i := 2) d_M_copyTo_2 rfl rfl ?_
  refine ab_aload_n (i := 0) d_M_copyTo_3 rfl rfl ?_
  refine ab_alen (v := 15960) d_M_copyTo_4 (by decide) (by decide) rfl ?_
  refine ab_icmp_ge (tgt := 20) d_M_copyTo_5 (by decide) (fun c1 => ?_) (fun c1 => ?_)
  · have h := h.1 c1
    exact ab_vret d_M_copyTo_20 rfl h
  · have h := h.2 c1
    refine ab_aload_n (i := 0) d_M_copyTo_8 rfl rfl ?_
    refine ab_iload_n (i := 2) d_M_copyTo_9 rfl rfl ?_
    refine ab_aload_n (i := 1) d_M_copyTo_10 rfl rfl ?_
    refine ab_iload_n (i := 2) d_M_copyTo_11 rfl rfl ?_
    have g2 := h.1; have h := h.2
    refine ab_iald d_M_copyTo_12 rfl rfl g2 ?_
    refine ab_iast d_M_copyTo_13 rfl rfl g2 ?_
    refine ab_iinc (i := 2) (v := (v2 + 1)) d_M_copyTo_14 rfl rfl (by decide) (Or.inr rfl) ?_
    refine ab_goto (tgt := 2) d_M_copyTo_17 (by decide) ?_
    exact h
-- CableKeeperModel.copyTo([I[I)V over mx_notedCableThen, mx_notedCable
theorem q_M_copyTo_6_0 {w : ab_Wd} {d n nc ns : Nat} {I : Nat → Nat → Int32} {L : Nat → Nat → Int64} {res : ab_Re}  (hc : nc ≤ res.2.2.2.2.2.1) (hs : ns ≤ res.2.2.2.2.2.2)
    (h : ab_E w d mt_M_copyTo 2 [.ref mx_notedCableThen, .ref mx_notedCable, .int 0] [] (I, L, ab_RR, n, nc, ns) res) : ab_E w d mt_M_copyTo 0 [.ref mx_notedCableThen, .ref mx_notedCable, .null] [] (I, L, ab_RR, n, nc, ns) res := by
  refine ab_iconst (v := 0) d_M_copyTo_0 rfl ?_
  refine ab_istore_n (i := 2) d_M_copyTo_1 rfl (by decide) (Or.inr rfl) ?_
  exact h
theorem q_M_copyTo_6_2 {w : ab_Wd} {d n nc ns : Nat} {I : Nat → Nat → Int32} {L : Nat → Nat → Int64} {res : ab_Re} (v2 : Int32) (hc : nc ≤ res.2.2.2.2.2.1) (hs : ns ≤ res.2.2.2.2.2.2)
    (h : ((8 ≤ v2 → (res = (.inl none, (I, L, ab_RR, n, nc, ns)))) ∧ (¬ 8 ≤ v2 → ((vp_in v2 8) ∧ ab_E w d mt_M_copyTo 2 [.ref mx_notedCableThen, .ref mx_notedCable, .int (v2 + 1)] [] ((ab_up I mx_notedCableThen v2.toNatClampNeg (I mx_notedCable v2.toNatClampNeg)), L, ab_RR, n, nc, ns) res)))) : ab_E w d mt_M_copyTo 2 [.ref mx_notedCableThen, .ref mx_notedCable, .int v2] [] (I, L, ab_RR, n, nc, ns) res := by
  refine ab_iload_n (i := 2) d_M_copyTo_2 rfl rfl ?_
  refine ab_aload_n (i := 0) d_M_copyTo_3 rfl rfl ?_
  refine ab_alen (v := 8) d_M_copyTo_4 (by decide) (by decide) rfl ?_
  refine ab_icmp_ge (tgt := 20) d_M_copyTo_5 (by decide) (fun c1 => ?_) (fun c1 => ?_)
  · have h := h.1 c1
    exact ab_vret d_M_copyTo_20 rfl h
  · have h := h.2 c1
    refine ab_aload_n (i := 0) d_M_copyTo_8 rfl rfl ?_
    refine ab_iload_n (i := 2) d_M_copyTo_9 rfl rfl ?_
    refine ab_aload_n (i := 1) d_M_copyTo_10 rfl rfl ?_
    refine ab_iload_n (i := 2) d_M_copyTo_11 rfl rfl ?_
    have g2 := h.1; have h := h.2
    refine ab_iald d_M_copyTo_12 rfl rfl g2 ?_
    refine ab_iast d_M_copyTo_13 rfl rfl g2 ?_
    refine ab_iinc (i := 2) (v := (v2 + 1)) d_M_copyTo_14 rfl rfl (by decide) (Or.inr rfl) ?_
    refine ab_goto (tgt := 2) d_M_copyTo_17 (by decide) ?_
    exact h
