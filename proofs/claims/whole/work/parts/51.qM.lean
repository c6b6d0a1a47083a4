theorem d_M_joined_0 : decode (ab_bc mt_M_joined) 0 = .ok (.aload_n 0, 1) := by decide +kernel
theorem d_M_joined_1 : decode (ab_bc mt_M_joined) 1 = .ok (.iconst 0, 1) := by decide +kernel
theorem d_M_joined_2 : decode (ab_bc mt_M_joined) 2 = .ok (.putfield 108, 3) := by decide +kernel
theorem d_M_joined_5 : decode (ab_bc mt_M_joined) 5 = .ok (.iload_n 1, 1) := by decide +kernel
theorem d_M_joined_6 : decode (ab_bc mt_M_joined) 6 = .ok (.iconst 0, 1) := by decide +kernel
theorem d_M_joined_7 : decode (ab_bc mt_M_joined) 7 = .ok (.iconst 1, 1) := by decide +kernel
theorem d_M_joined_8 : decode (ab_bc mt_M_joined) 8 = .ok (.aload_n 0, 1) := by decide +kernel
theorem d_M_joined_9 : decode (ab_bc mt_M_joined) 9 = .ok (.getfield 21, 3) := by decide +kernel
theorem d_M_joined_12 : decode (ab_bc mt_M_joined) 12 = .ok (.ishl, 1) := by decide +kernel
theorem d_M_joined_13 : decode (ab_bc mt_M_joined) 13 = .ok (.iconst 1, 1) := by decide +kernel
theorem d_M_joined_14 : decode (ab_bc mt_M_joined) 14 = .ok (.isub, 1) := by decide +kernel
theorem d_M_joined_15 : decode (ab_bc mt_M_joined) 15 = .ok (.invokestatic 344, 3) := by decide +kernel
theorem d_M_joined_18 : decode (ab_bc mt_M_joined) 18 = .ok (.ifCond .ne 9, 3) := by decide +kernel
theorem d_M_joined_21 : decode (ab_bc mt_M_joined) 21 = .ok (.aload_n 0, 1) := by decide +kernel
theorem d_M_joined_22 : decode (ab_bc mt_M_joined) 22 = .ok (.iconst 1, 1) := by decide +kernel
theorem d_M_joined_23 : decode (ab_bc mt_M_joined) 23 = .ok (.invokevirtual 202, 3) := by decide +kernel
theorem d_M_joined_26 : decode (ab_bc mt_M_joined) 26 = .ok (.ireturn, 1) := by decide +kernel
theorem d_M_joined_27 : decode (ab_bc mt_M_joined) 27 = .ok (.iload_n 1, 1) := by decide +kernel
theorem d_M_joined_28 : decode (ab_bc mt_M_joined) 28 = .ok (.invokestatic 425, 3) := by decide +kernel
theorem d_M_joined_31 : decode (ab_bc mt_M_joined) 31 = .ok (.iconst 2, 1) := by decide +kernel
theorem d_M_joined_32 : decode (ab_bc mt_M_joined) 32 = .ok (.if_icmp .ge 5, 3) := by decide +kernel
theorem d_M_joined_35 : decode (ab_bc mt_M_joined) 35 = .ok (.iconst 0, 1) := by decide +kernel
theorem d_M_joined_36 : decode (ab_bc mt_M_joined) 36 = .ok (.ireturn, 1) := by decide +kernel
theorem d_M_joined_37 : decode (ab_bc mt_M_joined) 37 = .ok (.aload_n 0, 1) := by decide +kernel
theorem d_M_joined_38 : decode (ab_bc mt_M_joined) 38 = .ok (.iload_n 1, 1) := by decide +kernel
theorem d_M_joined_39 : decode (ab_bc mt_M_joined) 39 = .ok (.invokevirtual 431, 3) := by decide +kernel
theorem d_M_joined_42 : decode (ab_bc mt_M_joined) 42 = .ok (.ldc_w 330, 3) := by decide +kernel
theorem d_M_joined_45 : decode (ab_bc mt_M_joined) 45 = .ok (.istore_n 2, 1) := by decide +kernel
theorem d_M_joined_46 : decode (ab_bc mt_M_joined) 46 = .ok (.iconst 0, 1) := by decide +kernel
theorem d_M_joined_47 : decode (ab_bc mt_M_joined) 47 = .ok (.istore_n 3, 1) := by decide +kernel
theorem d_M_joined_48 : decode (ab_bc mt_M_joined) 48 = .ok (.iload_n 3, 1) := by decide +kernel
theorem d_M_joined_49 : decode (ab_bc mt_M_joined) 49 = .ok (.aload_n 0, 1) := by decide +kernel
theorem d_M_joined_50 : decode (ab_bc mt_M_joined) 50 = .ok (.getfield 21, 3) := by decide +kernel
theorem d_M_joined_53 : decode (ab_bc mt_M_joined) 53 = .ok (.if_icmp .ge 25, 3) := by decide +kernel
theorem d_M_joined_56 : decode (ab_bc mt_M_joined) 56 = .ok (.iload_n 2, 1) := by decide +kernel
theorem d_M_joined_57 : decode (ab_bc mt_M_joined) 57 = .ok (.aload_n 0, 1) := by decide +kernel
theorem d_M_joined_58 : decode (ab_bc mt_M_joined) 58 = .ok (.getfield 78, 3) := by decide +kernel
theorem d_M_joined_61 : decode (ab_bc mt_M_joined) 61 = .ok (.bipush 10, 2) := by decide +kernel
theorem d_M_joined_63 : decode (ab_bc mt_M_joined) 63 = .ok (.iload_n 1, 1) := by decide +kernel
theorem d_M_joined_64 : decode (ab_bc mt_M_joined) 64 = .ok (.imul, 1) := by decide +kernel
theorem d_M_joined_65 : decode (ab_bc mt_M_joined) 65 = .ok (.iload_n 3, 1) := by decide +kernel
theorem d_M_joined_66 : decode (ab_bc mt_M_joined) 66 = .ok (.iadd, 1) := by decide +kernel
theorem d_M_joined_67 : decode (ab_bc mt_M_joined) 67 = .ok (.iaload, 1) := by decide +kernel
theorem d_M_joined_68 : decode (ab_bc mt_M_joined) 68 = .ok (.invokestatic 141, 3) := by decide +kernel
theorem d_M_joined_71 : decode (ab_bc mt_M_joined) 71 = .ok (.istore_n 2, 1) := by decide +kernel
theorem d_M_joined_72 : decode (ab_bc mt_M_joined) 72 = .ok (.iinc 3 1, 3) := by decide +kernel
theorem d_M_joined_75 : decode (ab_bc mt_M_joined) 75 = .ok (.goto (-27), 3) := by decide +kernel
theorem d_M_joined_78 : decode (ab_bc mt_M_joined) 78 = .ok (.iload_n 2, 1) := by decide +kernel
theorem d_M_joined_79 : decode (ab_bc mt_M_joined) 79 = .ok (.ldc_w 330, 3) := by decide +kernel
theorem d_M_joined_82 : decode (ab_bc mt_M_joined) 82 = .ok (.if_icmp .lt 7, 3) := by decide +kernel
theorem d_M_joined_85 : decode (ab_bc mt_M_joined) 85 = .ok (.iconst (-1), 1) := by decide +kernel
theorem d_M_joined_86 : decode (ab_bc mt_M_joined) 86 = .ok (.goto 4, 3) := by decide +kernel
theorem d_M_joined_89 : decode (ab_bc mt_M_joined) 89 = .ok (.iload_n 2, 1) := by decide +kernel
theorem d_M_joined_90 : decode (ab_bc mt_M_joined) 90 = .ok (.ireturn, 1) := by decide +kernel
-- CableKeeperModel.joined(I)I over mx
theorem q_M_joined_0 {w : ab_Wd} {d n nc ns : Nat} {I : Nat → Nat → Int32} {L : Nat → Nat → Int64} {res : ab_Re} (v1 : Int32) (hc : nc ≤ res.2.2.2.2.2.1) (hs : ns ≤ res.2.2.2.2.2.2)
    (h : ∃ (r1 : Int32), ab_C w d mt_M_isIn [.int v1, .int 0, .int (((1 : Int32) <<< ((I mx 2) &&& 31)) - 1)] ((ab_up I mx 1 0), L, ab_RR, n, nc, ns) (.inl (some (.int r1)), ((ab_up I mx 1 0), L, ab_RR, n, nc, ns)) ∧ ((¬ r1 = 0 → (∃ (r3 : Int32), ab_C w d mt_Integer_bitCount [.int v1] ((ab_up I mx 1 0), L, ab_RR, n, nc, ns) (.inl (some (.int r3)), ((ab_up I mx 1 0), L, ab_RR, n, nc, ns)) ∧ ((2 ≤ r3 → (∃ (I6 : Nat → Nat → Int32), ab_C w d mt_M_tellJoints [.ref mx, .int v1] ((ab_up I mx 1 0), L, ab_RR, n, nc, ns) (.inl none, (I6, L, ab_RR, n, nc, ns)) ∧ ab_E w (d + 1) mt_M_joined 48 [.ref mx, .int v1, .int 1000000, .int 0] [] (I6, L, ab_RR, n, nc, ns) res)) ∧ (¬ 2 ≤ r3 → (res = (.inl (some (.int 0)), ((ab_up I mx 1 0), L, ab_RR, n, nc, ns))))))) ∧ (r1 = 0 → (∃ (r7 : Int32) (I8 : Nat → Nat → Int32), ab_C w d mt_M_fail [.ref mx, .int 1] ((ab_up I mx 1 0), L, ab_RR, n, nc, ns) (.inl (some (.int r7)), (I8, L, ab_RR, n, nc, ns)) ∧ res = (.inl (some (.int r7)), (I8, L, ab_RR, n, nc, ns)))))) : ab_E w (d + 1) mt_M_joined 0 [.ref mx, .int v1, .null, .null] [] (I, L, ab_RR, n, nc, ns) res := by
  refine ab_aload_n (i := 0) d_M_joined_0 rfl rfl ?_
  refine ab_iconst (v := 0) d_M_joined_1 rfl ?_
  refine ab_putI (ci := 11) (k := 1) d_M_joined_2 v_1369 rfl (by decide) (by decide) rfl (Or.inl rfl) rfl rfl ?_
  refine ab_iload_n (i := 1) d_M_joined_5 rfl rfl ?_
  refine ab_iconst (v := 0) d_M_joined_6 rfl ?_
  refine ab_iconst (v := 1) d_M_joined_7 rfl ?_
  refine ab_aload_n (i := 0) d_M_joined_8 rfl rfl ?_
  refine ab_getI (ci := 11) (k := 2) d_M_joined_9 v_1370 rfl (by decide) (by decide) rfl ?_
  refine ab_ishl d_M_joined_12 ?_
  refine ab_iconst (v := 1) d_M_joined_13 rfl ?_
  refine ab_isub d_M_joined_14 ?_
  obtain ⟨r1, hC, h⟩ := h
  refine ab_callS (me2 := mt_M_isIn) (as := [.int v1, .int 0, .int (((1 : Int32) <<< ((I mx 2) &&& 31)) - 1)]) (st := []) (rv := (some (.int r1))) (M2 := ((ab_up I mx 1 0), L, ab_RR, n, nc, ns)) d_M_joined_15 ce_M_isIn ⟨v_1753, Or.inl v_1752⟩ (Nat.le_of_ble_eq_true rfl) hC (Nat.le_refl _) (Nat.le_refl _) hc hs (fun j h9 => by cases h9) (fun _ _ => rfl) ?_
  show ab_E w (d + 1) mt_M_joined 18 [.ref mx, .int v1, .null, .null] [.int r1] ((ab_up I mx 1 0), L, ab_RR, n, nc, ns) res
  refine ab_if_ne (tgt := 27) d_M_joined_18 (by decide) (fun c2 => ?_) (fun c2 => ?_)
  · have h := h.1 c2
    refine ab_iload_n (i := 1) d_M_joined_27 rfl rfl ?_
    obtain ⟨r3, hC, h⟩ := h
    refine ab_callS (me2 := mt_Integer_bitCount) (as := [.int v1]) (st := []) (rv := (some (.int r3))) (M2 := ((ab_up I mx 1 0), L, ab_RR, n, nc, ns)) d_M_joined_28 ce_Integer_bitCount ⟨v_965, Or.inl v_1879⟩ (Nat.le_of_ble_eq_true rfl) hC (Nat.le_refl _) (Nat.le_refl _) hc hs (fun j h9 => by cases h9) (fun _ _ => rfl) ?_
    show ab_E w (d + 1) mt_M_joined 31 [.ref mx, .int v1, .null, .null] [.int r3] ((ab_up I mx 1 0), L, ab_RR, n, nc, ns) res
    refine ab_iconst (v := 2) d_M_joined_31 rfl ?_
    refine ab_icmp_ge (tgt := 37) d_M_joined_32 (by decide) (fun c4 => ?_) (fun c4 => ?_)
    · have h := h.1 c4
      refine ab_aload_n (i := 0) d_M_joined_37 rfl rfl ?_
      refine ab_iload_n (i := 1) d_M_joined_38 rfl rfl ?_
      obtain ⟨I6, hC, h⟩ := h
      refine ab_callV (me2 := mt_M_tellJoints) (b := mx) (as := [.int v1]) (st := []) (rv := none) (M2 := (I6, L, ab_RR, n, nc, ns)) d_M_joined_39 ce_M_tellJoints v_1880 v_1882 v_125 (by decide) rfl (Nat.le_of_ble_eq_true rfl) hC (Nat.le_refl _) (Nat.le_refl _) hc hs (fun j h9 => by cases h9) (fun _ _ => rfl) ?_
      show ab_E w (d + 1) mt_M_joined 42 [.ref mx, .int v1, .null, .null] [] (I6, L, ab_RR, n, nc, ns) res
      refine ab_ldcw (v := 1000000) d_M_joined_42 v_1743 ?_
      refine ab_istore_n (i := 2) d_M_joined_45 rfl (by decide) (Or.inr rfl) ?_
      refine ab_iconst (v := 0) d_M_joined_46 rfl ?_
      refine ab_istore_n (i := 3) d_M_joined_47 rfl (by decide) (Or.inr rfl) ?_
      exact h
    · have h := h.2 c4
      refine ab_iconst (v := 0) d_M_joined_35 rfl ?_
      exact ab_iret (ty := .int) d_M_joined_36 rfl rfl h
  · have h := h.2 c2
    refine ab_aload_n (i := 0) d_M_joined_21 rfl rfl ?_
    refine ab_iconst (v := 1) d_M_joined_22 rfl ?_
    obtain ⟨r7, I8, hC, h⟩ := h
    refine ab_callV (me2 := mt_M_fail) (b := mx) (as := [.int 1]) (st := []) (rv := (some (.int r7))) (M2 := (I8, L, ab_RR, n, nc, ns)) d_M_joined_23 ce_M_fail v_1562 v_1564 v_66 (by decide) rfl (Nat.le_of_ble_eq_true rfl) hC (Nat.le_refl _) (Nat.le_refl _) hc hs (fun j h9 => by cases h9) (fun _ _ => rfl) ?_
    show ab_E w (d + 1) mt_M_joined 26 [.ref mx, .int v1, .null, .null] [.int r7] (I8, L, ab_RR, n, nc, ns) res
    exact ab_iret (ty := .int) d_M_joined_26 rfl rfl h
theorem q_M_joined_48 {w : ab_Wd} {d n nc ns : Nat} {I : Nat → Nat → Int32} {L : Nat → Nat → Int64} {res : ab_Re} (v1 : Int32) (v2 : Int32) (v3 : Int32) (hc : nc ≤ res.2.2.2.2.2.1) (hs : ns ≤ res.2.2.2.2.2.2)
    (h : (((I mx 2) ≤ v3 → ((v2 < 1000000 → (ab_E w (d + 1) mt_M_joined 90 [.ref mx, .int v1, .int v2, .int v3] [.int v2] (I, L, ab_RR, n, nc, ns) res)) ∧ (¬ v2 < 1000000 → (ab_E w (d + 1) mt_M_joined 90 [.ref mx, .int v1, .int v2, .int v3] [.int (-1)] (I, L, ab_RR, n, nc, ns) res)))) ∧ (¬ (I mx 2) ≤ v3 → ((vp_in ((10 * v1) + v3) 10240) ∧ ab_E w (d + 1) mt_M_joined 48 [.ref mx, .int v1, .int (ab_min32 v2 (I mx_joint ((10 * v1) + v3).toNatClampNeg)), .int (v3 + 1)] [] (I, L, ab_RR, n, nc, ns) res)))) : ab_E w (d + 1) mt_M_joined 48 [.ref mx, .int v1, .int v2, .int v3] [] (I, L, ab_RR, n, nc, ns) res := by
  refine ab_iload_n (i := 3) d_M_joined_48 rfl rfl ?_
  refine ab_aload_n (i := 0) d_M_joined_49 rfl rfl ?_
  refine ab_getI (ci := 11) (k := 2) d_M_joined_50 v_1370 rfl (by decide) (by decide) rfl ?_
  refine ab_icmp_ge (tgt := 78) d_M_joined_53 (by decide) (fun c1 => ?_) (fun c1 => ?_)
  · have h := h.1 c1
    refine ab_iload_n (i := 2) d_M_joined_78 rfl rfl ?_
    refine ab_ldcw (v := 1000000) d_M_joined_79 v_1743 ?_
    refine ab_icmp_lt (tgt := 89) d_M_joined_82 (by decide) (fun c2 => ?_) (fun c2 => ?_)
    · have h := h.1 c2
      refine ab_iload_n (i := 2) d_M_joined_89 rfl rfl ?_
      exact h
    · have h := h.2 c2
      refine ab_iconst (v := (-1)) d_M_joined_85 rfl ?_
      refine ab_goto (tgt := 90) d_M_joined_86 (by decide) ?_
      exact h
  · have h := h.2 c1
    refine ab_iload_n (i := 2) d_M_joined_56 rfl rfl ?_
    refine ab_aload_n (i := 0) d_M_joined_57 rfl rfl ?_
    refine ab_getR (ci := 11) (k := 40) (j := mx_joint) d_M_joined_58 v_1408 rfl (by decide) (by decide) rfl r_mx_40 ?_
    refine ab_bipush (v := 10) d_M_joined_61 rfl ?_
    refine ab_iload_n (i := 1) d_M_joined_63 rfl rfl ?_
    refine ab_imul d_M_joined_64 ?_
    refine ab_iload_n (i := 3) d_M_joined_65 rfl rfl ?_
    refine ab_iadd d_M_joined_66 ?_
    have g3 := h.1; have h := h.2
    refine ab_iald d_M_joined_67 rfl rfl g3 ?_
    refine ab_min d_M_joined_68 v_1581 v_448 v_150 v_449 (Nat.succ_le_succ (Nat.zero_le _)) (Nat.le_of_ble_eq_true rfl) hc hs ?_
    refine ab_istore_n (i := 2) d_M_joined_71 rfl (by decide) (Or.inr rfl) ?_
    refine ab_iinc (i := 3) (v := (v3 + 1)) d_M_joined_72 rfl rfl (by decide) (Or.inr rfl) ?_
    refine ab_goto (tgt := 48) d_M_joined_75 (by decide) ?_
    exact h
theorem q_M_joined_90 {w : ab_Wd} {d n nc ns : Nat} {I : Nat → Nat → Int32} {L : Nat → Nat → Int64} {res : ab_Re} (v1 : Int32) (v2 : Int32) (v3 : Int32) (s0 : Int32) (hc : nc ≤ res.2.2.2.2.2.1) (hs : ns ≤ res.2.2.2.2.2.2)
    (h : res = (.inl (some (.int s0)), (I, L, ab_RR, n, nc, ns))) : ab_E w (d + 1) mt_M_joined 90 [.ref mx, .int v1, .int v2, .int v3] [.int s0] (I, L, ab_RR, n, nc, ns) res := by
  exact ab_iret (ty := .int) d_M_joined_90 rfl rfl h
theorem d_M_swap_0 : decode (ab_bc mt_M_swap) 0 = .ok (.aload_n 0, 1) := by decide +kernel
theorem d_M_swap_1 : decode (ab_bc mt_M_swap) 1 = .ok (.iconst 0, 1) := by decide +kernel
theorem d_M_swap_2 : decode (ab_bc mt_M_swap) 2 = .ok (.putfield 108, 3) := by decide +kernel
theorem d_M_swap_5 : decode (ab_bc mt_M_swap) 5 = .ok (.iload_n 1, 1) := by decide +kernel
theorem d_M_swap_6 : decode (ab_bc mt_M_swap) 6 = .ok (.iconst 0, 1) := by decide +kernel
theorem d_M_swap_7 : decode (ab_bc mt_M_swap) 7 = .ok (.bipush 60, 2) := by decide +kernel
theorem d_M_swap_9 : decode (ab_bc mt_M_swap) 9 = .ok (.aload_n 0, 1) := by decide +kernel
theorem d_M_swap_10 : decode (ab_bc mt_M_swap) 10 = .ok (.getfield 24, 3) := by decide +kernel
theorem d_M_swap_13 : decode (ab_bc mt_M_swap) 13 = .ok (.iconst 2, 1) := by decide +kernel
theorem d_M_swap_14 : decode (ab_bc mt_M_swap) 14 = .ok (.iaload, 1) := by decide +kernel
theorem d_M_swap_15 : decode (ab_bc mt_M_swap) 15 = .ok (.invokestatic 141, 3) := by decide +kernel
theorem d_M_swap_18 : decode (ab_bc mt_M_swap) 18 = .ok (.iconst 1, 1) := by decide +kernel
theorem d_M_swap_19 : decode (ab_bc mt_M_swap) 19 = .ok (.isub, 1) := by decide +kernel
theorem d_M_swap_20 : decode (ab_bc mt_M_swap) 20 = .ok (.invokestatic 344, 3) := by decide +kernel
theorem d_M_swap_23 : decode (ab_bc mt_M_swap) 23 = .ok (.ifCond .eq 16, 3) := by decide +kernel
theorem d_M_swap_26 : decode (ab_bc mt_M_swap) 26 = .ok (.iload_n 2, 1) := by decide +kernel
theorem d_M_swap_27 : decode (ab_bc mt_M_swap) 27 = .ok (.iconst 0, 1) := by decide +kernel
theorem d_M_swap_28 : decode (ab_bc mt_M_swap) 28 = .ok (.iconst 4, 1) := by decide +kernel
theorem d_M_swap_29 : decode (ab_bc mt_M_swap) 29 = .ok (.invokestatic 344, 3) := by decide +kernel
theorem d_M_swap_32 : decode (ab_bc mt_M_swap) 32 = .ok (.ifCond .eq 7, 3) := by decide +kernel
theorem d_M_swap_35 : decode (ab_bc mt_M_swap) 35 = .ok (.iconst 1, 1) := by decide +kernel
theorem d_M_swap_36 : decode (ab_bc mt_M_swap) 36 = .ok (.goto 4, 3) := by decide +kernel
theorem d_M_swap_39 : decode (ab_bc mt_M_swap) 39 = .ok (.iconst 0, 1) := by decide +kernel
theorem d_M_swap_40 : decode (ab_bc mt_M_swap) 40 = .ok (.istore_n 3, 1) := by decide +kernel
theorem d_M_swap_41 : decode (ab_bc mt_M_swap) 41 = .ok (.iload_n 3, 1) := by decide +kernel
theorem d_M_swap_42 : decode (ab_bc mt_M_swap) 42 = .ok (.ifCond .eq 31, 3) := by decide +kernel
theorem d_M_swap_45 : decode (ab_bc mt_M_swap) 45 = .ok (.aload_n 0, 1) := by decide +kernel
theorem d_M_swap_46 : decode (ab_bc mt_M_swap) 46 = .ok (.getfield 24, 3) := by decide +kernel
theorem d_M_swap_49 : decode (ab_bc mt_M_swap) 49 = .ok (.bipush 99, 2) := by decide +kernel
theorem d_M_swap_51 : decode (ab_bc mt_M_swap) 51 = .ok (.iconst 5, 1) := by decide +kernel
theorem d_M_swap_52 : decode (ab_bc mt_M_swap) 52 = .ok (.aload_n 0, 1) := by decide +kernel
theorem d_M_swap_53 : decode (ab_bc mt_M_swap) 53 = .ok (.getfield 24, 3) := by decide +kernel
theorem d_M_swap_56 : decode (ab_bc mt_M_swap) 56 = .ok (.iconst 2, 1) := by decide +kernel
theorem d_M_swap_57 : decode (ab_bc mt_M_swap) 57 = .ok (.iaload, 1) := by decide +kernel
theorem d_M_swap_58 : decode (ab_bc mt_M_swap) 58 = .ok (.iconst 1, 1) := by decide +kernel
theorem d_M_swap_59 : decode (ab_bc mt_M_swap) 59 = .ok (.isub, 1) := by decide +kernel
theorem d_M_swap_60 : decode (ab_bc mt_M_swap) 60 = .ok (.iload_n 1, 1) := by decide +kernel
theorem d_M_swap_61 : decode (ab_bc mt_M_swap) 61 = .ok (.isub, 1) := by decide +kernel
theorem d_M_swap_62 : decode (ab_bc mt_M_swap) 62 = .ok (.bipush 60, 2) := by decide +kernel
theorem d_M_swap_64 : decode (ab_bc mt_M_swap) 64 = .ok (.irem, 1) := by decide +kernel
theorem d_M_swap_65 : decode (ab_bc mt_M_swap) 65 = .ok (.imul, 1) := by decide +kernel
theorem d_M_swap_66 : decode (ab_bc mt_M_swap) 66 = .ok (.iadd, 1) := by decide +kernel
theorem d_M_swap_67 : decode (ab_bc mt_M_swap) 67 = .ok (.iload_n 2, 1) := by decide +kernel
theorem d_M_swap_68 : decode (ab_bc mt_M_swap) 68 = .ok (.iadd, 1) := by decide +kernel
theorem d_M_swap_69 : decode (ab_bc mt_M_swap) 69 = .ok (.iaload, 1) := by decide +kernel
theorem d_M_swap_70 : decode (ab_bc mt_M_swap) 70 = .ok (.goto 8, 3) := by decide +kernel
theorem d_M_swap_73 : decode (ab_bc mt_M_swap) 73 = .ok (.aload_n 0, 1) := by decide +kernel
theorem d_M_swap_74 : decode (ab_bc mt_M_swap) 74 = .ok (.iconst 1, 1) := by decide +kernel
theorem d_M_swap_75 : decode (ab_bc mt_M_swap) 75 = .ok (.invokevirtual 202, 3) := by decide +kernel
theorem d_M_swap_78 : decode (ab_bc mt_M_swap) 78 = .ok (.ireturn, 1) := by decide +kernel
-- CableKeeperModel.swap(II)I over mx
theorem q_M_swap_0 {w : ab_Wd} {d n nc ns : Nat} {I : Nat → Nat → Int32} {L : Nat → Nat → Int64} {res : ab_Re} (v1 : Int32) (v2 : Int32) (hc : nc ≤ res.2.2.2.2.2.1) (hs : ns ≤ res.2.2.2.2.2.2)
    (h : ∃ (r1 : Int32), ab_C w d mt_M_isIn [.int v1, .int 0, .int ((ab_min32 60 (I mx_now 2)) - 1)] ((ab_up I mx 1 0), L, ab_RR, n, nc, ns) (.inl (some (.int r1)), ((ab_up I mx 1 0), L, ab_RR, n, nc, ns)) ∧ ((r1 = 0 → (ab_E w (d + 1) mt_M_swap 39 [.ref mx, .int v1, .int v2, .null] [] ((ab_up I mx 1 0), L, ab_RR, n, nc, ns) res)) ∧ (¬ r1 = 0 → (∃ (r3 : Int32), ab_C w d mt_M_isIn [.int v2, .int 0, .int 4] ((ab_up I mx 1 0), L, ab_RR, n, nc, ns) (.inl (some (.int r3)), ((ab_up I mx 1 0), L, ab_RR, n, nc, ns)) ∧ ((r3 = 0 → (ab_E w (d + 1) mt_M_swap 39 [.ref mx, .int v1, .int v2, .null] [] ((ab_up I mx 1 0), L, ab_RR, n, nc, ns) res)) ∧ (¬ r3 = 0 → (ab_E w (d + 1) mt_M_swap 40 [.ref mx, .int v1, .int v2, .null] [.int 1] ((ab_up I mx 1 0), L, ab_RR, n, nc, ns) res))))))) : ab_E w (d + 1) mt_M_swap 0 [.ref mx, .int v1, .int v2, .null] [] (I, L, ab_RR, n, nc, ns) res := by
  refine ab_aload_n (i := 0) d_M_swap_0 rfl rfl ?_
  refine ab_iconst (v := 0) d_M_swap_1 rfl ?_
  refine ab_putI (ci := 11) (k := 1) d_M_swap_2 v_1369 rfl (by decide) (by decide) rfl (Or.inl rfl) rfl rfl ?_
  refine ab_iload_n (i := 1) d_M_swap_5 rfl rfl ?_
  refine ab_iconst (v := 0) d_M_swap_6 rfl ?_
  refine ab_bipush (v := 60) d_M_swap_7 rfl ?_
  refine ab_aload_n (i := 0) d_M_swap_9 rfl rfl ?_
  refine ab_getR (ci := 11) (k := 4) (j := mx_now) d_M_swap_10 v_1372 rfl (by decide) (by decide) rfl r_mx_4 ?_
  refine ab_iconst (v := 2) d_M_swap_13 rfl ?_
  refine ab_iald d_M_swap_14 rfl rfl (by unfold vp_in; decide) ?_
  refine ab_min d_M_swap_15 v_1581 v_448 v_150 v_449 (Nat.succ_le_succ (Nat.zero_le _)) (Nat.le_of_ble_eq_true rfl) hc hs ?_
  refine ab_iconst (v := 1) d_M_swap_18 rfl ?_
  refine ab_isub d_M_swap_19 ?_
  obtain ⟨r1, hC, h⟩ := h
  refine ab_callS (me2 := mt_M_isIn) (as := [.int v1, .int 0, .int ((ab_min32 60 (I mx_now 2)) - 1)]) (st := []) (rv := (some (.int r1))) (M2 := ((ab_up I mx 1 0), L, ab_RR, n, nc, ns)) d_M_swap_20 ce_M_isIn ⟨v_1753, Or.inl v_1752⟩ (Nat.le_of_ble_eq_true rfl) hC (Nat.le_refl _) (Nat.le_refl _) hc hs (fun j h9 => by cases h9) (fun _ _ => rfl) ?_
  show ab_E w (d + 1) mt_M_swap 23 [.ref mx, .int v1, .int v2, .null] [.int r1] ((ab_up I mx 1 0), L, ab_RR, n, nc, ns) res
  refine ab_if_eq (tgt := 39) d_M_swap_23 (by decide) (fun c2 => ?_) (fun c2 => ?_)
  · have h := h.1 c2
    exact h
  · have h := h.2 c2
    refine ab_iload_n (i := 2) d_M_swap_26 rfl rfl ?_
    refine ab_iconst (v := 0) d_M_swap_27 rfl ?_
    refine ab_iconst (v := 4) d_M_swap_28 rfl ?_
    obtain ⟨r3, hC, h⟩ := h
    refine ab_callS (me2 := mt_M_isIn) (as := [.int v2, .int 0, .int 4]) (st := []) (rv := (some (.int r3))) (M2 := ((ab_up I mx 1 0), L, ab_RR, n, nc, ns)) d_M_swap_29 ce_M_isIn ⟨v_1753, Or.inl v_1752⟩ (Nat.le_of_ble_eq_true rfl) hC (Nat.le_refl _) (Nat.le_refl _) hc hs (fun j h9 => by cases h9) (fun _ _ => rfl) ?_
    show ab_E w (d + 1) mt_M_swap 32 [.ref mx, .int v1, .int v2, .null] [.int r3] ((ab_up I mx 1 0), L, ab_RR, n, nc, ns) res
    refine ab_if_eq (tgt := 39) d_M_swap_32 (by decide) (fun c4 => ?_) (fun c4 => ?_)
    · have h := h.1 c4
      exact h
    · have h := h.2 c4
      refine ab_iconst (v := 1) d_M_swap_35 rfl ?_
      refine ab_goto (tgt := 40) d_M_swap_36 (by decide) ?_
      exact h
theorem q_M_swap_39 {w : ab_Wd} {d n nc ns : Nat} {I : Nat → Nat → Int32} {L : Nat → Nat → Int64} {res : ab_Re} (v1 : Int32) (v2 : Int32) (hc : nc ≤ res.2.2.2.2.2.1) (hs : ns ≤ res.2.2.2.2.2.2)
    (h : ab_E w (d + 1) mt_M_swap 40 [.ref mx, .int v1, .int v2, .null] [.int 0] (I, L, ab_RR, n, nc, ns) res) : ab_E w (d + 1) mt_M_swap 39 [.ref mx, .int v1, .int v2, .null] [] (I, L, ab_RR, n, nc, ns) res := by
  refine ab_iconst (v := 0) d_M_swap_39 rfl ?_
  exact h
theorem q_M_swap_40 {w : ab_Wd} {d n nc ns : Nat} {I : Nat → Nat → Int32} {L : Nat → Nat → Int64} {res : ab_Re} (v1 : Int32) (v2 : Int32) (s0 : Int32) (hc : nc ≤ res.2.2.2.2.2.1) (hs : ns ≤ res.2.2.2.2.2.2)
    (h : ((s0 = 0 → (∃ (r2 : Int32) (I3 : Nat → Nat → Int32), ab_C w d mt_M_fail [.ref mx, .int 1] (I, L, ab_RR, n, nc, ns) (.inl (some (.int r2)), (I3, L, ab_RR, n, nc, ns)) ∧ ab_E w (d + 1) mt_M_swap 78 [.ref mx, .int v1, .int v2, .int s0] [.int r2] (I3, L, ab_RR, n, nc, ns) res)) ∧ (¬ s0 = 0 → ((vp_in ((99 + (5 * ((((I mx_now 2) - 1) - v1) - (((I mx_now 2) - 1) - v1) / 60 * 60))) + v2) 399) ∧ ab_E w (d + 1) mt_M_swap 78 [.ref mx, .int v1, .int v2, .int s0] [.int (I mx_now ((99 + (5 * ((((I mx_now 2) - 1) - v1) - (((I mx_now 2) - 1) - v1) / 60 * 60))) + v2).toNatClampNeg)] (I, L, ab_RR, n, nc, ns) res)))) : ab_E w (d + 1) mt_M_swap 40 [.ref mx, .int v1, .int v2, .null] [.int s0] (I, L, ab_RR, n, nc, ns) res := by
  refine ab_istore_n (i := 3) d_M_swap_40 rfl (by decide) (Or.inr rfl) ?_
  refine ab_iload_n (i := 3) d_M_swap_41 rfl rfl ?_
  refine ab_if_eq (tgt := 73) d_M_swap_42 (by decide) (fun c1 => ?_) (fun c1 => ?_)
  · have h := h.1 c1
    refine ab_aload_n (i := 0) d_M_swap_73 rfl rfl ?_
    refine ab_iconst (v := 1) d_M_swap_74 rfl ?_
    obtain ⟨r2, I3, hC, h⟩ := h
    refine ab_callV (me2 := mt_M_fail) (b := mx) (as := [.int 1]) (st := []) (rv := (some (.int r2))) (M2 := (I3, L, ab_RR, n, nc, ns)) d_M_swap_75 ce_M_fail v_1562 v_1564 v_66 (by decide) rfl (Nat.le_of_ble_eq_true rfl) hC (Nat.le_refl _) (Nat.le_refl _) hc hs (fun j h9 => by cases h9) (fun _ _ => rfl) ?_
    show ab_E w (d + 1) mt_M_swap 78 [.ref mx, .int v1, .int v2, .int s0] [.int r2] (I3, L, ab_RR, n, nc, ns) res
    exact h
  · have h := h.2 c1
    refine ab_aload_n (i := 0) d_M_swap_45 rfl rfl ?_
    refine ab_getR (ci := 11) (k := 4) (j := mx_now) d_M_swap_46 v_1372 rfl (by decide) (by decide) rfl r_mx_4 ?_
    refine ab_bipush (v := 99) d_M_swap_49 rfl ?_
    refine ab_iconst (v := 5) d_M_swap_51 rfl ?_
    refine ab_aload_n (i := 0) d_M_swap_52 rfl rfl ?_
    refine ab_getR (ci := 11) (k := 4) (j := mx_now) d_M_swap_53 v_1372 rfl (by decide) (by decide) rfl r_mx_4 ?_
    refine ab_iconst (v := 2) d_M_swap_56 rfl ?_
    refine ab_iald d_M_swap_57 rfl rfl (by unfold vp_in; decide) ?_
    refine ab_iconst (v := 1) d_M_swap_58 rfl ?_
    refine ab_isub d_M_swap_59 ?_
    refine ab_iload_n (i := 1) d_M_swap_60 rfl rfl ?_
    refine ab_isub d_M_swap_61 ?_
    refine ab_bipush (v := 60) d_M_swap_62 rfl ?_
    refine ab_irem d_M_swap_64 (by decide) ?_
    refine ab_imul d_M_swap_65 ?_
    refine ab_iadd d_M_swap_66 ?_
    refine ab_iload_n (i := 2) d_M_swap_67 rfl rfl ?_
    refine ab_iadd d_M_swap_68 ?_
    have g4 := h.1; have h := h.2
    refine ab_iald d_M_swap_69 rfl rfl g4 ?_
    refine ab_goto (tgt := 78) d_M_swap_70 (by decide) ?_
    exact h
theorem q_M_swap_78 {w : ab_Wd} {d n nc ns : Nat} {I : Nat → Nat → Int32} {L : Nat → Nat → Int64} {res : ab_Re} (v1 : Int32) (v2 : Int32) (v3 : Int32) (s0 : Int32) (hc : nc ≤ res.2.2.2.2.2.1) (hs : ns ≤ res.2.2.2.2.2.2)
    (h : res = (.inl (some (.int s0)), (I, L, ab_RR, n, nc, ns))) : ab_E w (d + 1) mt_M_swap 78 [.ref mx, .int v1, .int v2, .int v3] [.int s0] (I, L, ab_RR, n, nc, ns) res := by
  exact ab_iret (ty := .int) d_M_swap_78 rfl rfl h
theorem d_M_refuse_0 : decode (ab_bc mt_M_refuse) 0 = .ok (.aload_n 0, 1) := by decide +kernel
theorem d_M_refuse_1 : decode (ab_bc mt_M_refuse) 1 = .ok (.getfield 31, 3) := by decide +kernel
theorem d_M_refuse_4 : decode (ab_bc mt_M_refuse) 4 = .ok (.iload_n 1, 1) := by decide +kernel
theorem d_M_refuse_5 : decode (ab_bc mt_M_refuse) 5 = .ok (.dup2, 1) := by decide +kernel
theorem d_M_refuse_6 : decode (ab_bc mt_M_refuse) 6 = .ok (.iaload, 1) := by decide +kernel
theorem d_M_refuse_7 : decode (ab_bc mt_M_refuse) 7 = .ok (.iconst 1, 1) := by decide +kernel
theorem d_M_refuse_8 : decode (ab_bc mt_M_refuse) 8 = .ok (.iadd, 1) := by decide +kernel
theorem d_M_refuse_9 : decode (ab_bc mt_M_refuse) 9 = .ok (.iastore, 1) := by decide +kernel
theorem d_M_refuse_10 : decode (ab_bc mt_M_refuse) 10 = .ok (.iconst (-1), 1) := by decide +kernel
theorem d_M_refuse_11 : decode (ab_bc mt_M_refuse) 11 = .ok (.ireturn, 1) := by decide +kernel
-- CableKeeperModel.refuse(I)I over mx
theorem q_M_refuse_0 {w : ab_Wd} {d n nc ns : Nat} {I : Nat → Nat → Int32} {L : Nat → Nat → Int64} {res : ab_Re} (v1 : Int32) (hc : nc ≤ res.2.2.2.2.2.1) (hs : ns ≤ res.2.2.2.2.2.2)
    (h : (vp_in v1 3) ∧ res = (.inl (some (.int (-1))), ((ab_up I mx_status v1.toNatClampNeg ((I mx_status v1.toNatClampNeg) + 1)), L, ab_RR, n, nc, ns))) : ab_E w d mt_M_refuse 0 [.ref mx, .int v1] [] (I, L, ab_RR, n, nc, ns) res := by
  refine ab_aload_n (i := 0) d_M_refuse_0 rfl rfl ?_
  refine ab_getR (ci := 11) (k := 6) (j := mx_status) d_M_refuse_1 v_1374 rfl (by decide) (by decide) rfl r_mx_6 ?_
  refine ab_iload_n (i := 1) d_M_refuse_4 rfl rfl ?_
  refine ab_dup2 d_M_refuse_5 ?_
  have g1 := h.1; have h := h.2
  refine ab_iald d_M_refuse_6 rfl rfl g1 ?_
  refine ab_iconst (v := 1) d_M_refuse_7 rfl ?_
  refine ab_iadd d_M_refuse_8 ?_
  refine ab_iast d_M_refuse_9 rfl rfl g1 ?_
  refine ab_iconst (v := (-1)) d_M_refuse_10 rfl ?_
  exact ab_iret (ty := .int) d_M_refuse_11 rfl rfl h
theorem d_M_keep_0 : decode (ab_bc mt_M_keep) 0 = .ok (.aload_n 0, 1) := by decide +kernel
theorem d_M_keep_1 : decode (ab_bc mt_M_keep) 1 = .ok (.getfield 212, 3) := by decide +kernel
theorem d_M_keep_4 : decode (ab_bc mt_M_keep) 4 = .ok (.bipush 40, 2) := by decide +kernel
theorem d_M_keep_6 : decode (ab_bc mt_M_keep) 6 = .ok (.if_icmp .ne 48, 3) := by decide +kernel
theorem d_M_keep_9 : decode (ab_bc mt_M_keep) 9 = .ok (.sipush 399, 3) := by decide +kernel
theorem d_M_keep_12 : decode (ab_bc mt_M_keep) 12 = .ok (.istore_n 1, 1) := by decide +kernel
theorem d_M_keep_13 : decode (ab_bc mt_M_keep) 13 = .ok (.iload_n 1, 1) := by decide +kernel
theorem d_M_keep_14 : decode (ab_bc mt_M_keep) 14 = .ok (.aload_n 0, 1) := by decide +kernel
theorem d_M_keep_15 : decode (ab_bc mt_M_keep) 15 = .ok (.getfield 81, 3) := by decide +kernel
theorem d_M_keep_18 : decode (ab_bc mt_M_keep) 18 = .ok (.arraylength, 1) := by decide +kernel
theorem d_M_keep_19 : decode (ab_bc mt_M_keep) 19 = .ok (.if_icmp .ge 25, 3) := by decide +kernel
theorem d_M_keep_22 : decode (ab_bc mt_M_keep) 22 = .ok (.aload_n 0, 1) := by decide +kernel
theorem d_M_keep_23 : decode (ab_bc mt_M_keep) 23 = .ok (.getfield 81, 3) := by decide +kernel
theorem d_M_keep_26 : decode (ab_bc mt_M_keep) 26 = .ok (.iload_n 1, 1) := by decide +kernel
theorem d_M_keep_27 : decode (ab_bc mt_M_keep) 27 = .ok (.sipush 399, 3) := by decide +kernel
theorem d_M_keep_30 : decode (ab_bc mt_M_keep) 30 = .ok (.isub, 1) := by decide +kernel
theorem d_M_keep_31 : decode (ab_bc mt_M_keep) 31 = .ok (.aload_n 0, 1) := by decide +kernel
theorem d_M_keep_32 : decode (ab_bc mt_M_keep) 32 = .ok (.getfield 81, 3) := by decide +kernel
theorem d_M_keep_35 : decode (ab_bc mt_M_keep) 35 = .ok (.iload_n 1, 1) := by decide +kernel
theorem d_M_keep_36 : decode (ab_bc mt_M_keep) 36 = .ok (.iaload, 1) := by decide +kernel
theorem d_M_keep_37 : decode (ab_bc mt_M_keep) 37 = .ok (.iastore, 1) := by decide +kernel
theorem d_M_keep_38 : decode (ab_bc mt_M_keep) 38 = .ok (.iinc 1 1, 3) := by decide +kernel
theorem d_M_keep_41 : decode (ab_bc mt_M_keep) 41 = .ok (.goto (-28), 3) := by decide +kernel
theorem d_M_keep_44 : decode (ab_bc mt_M_keep) 44 = .ok (.aload_n 0, 1) := by decide +kernel
theorem d_M_keep_45 : decode (ab_bc mt_M_keep) 45 = .ok (.dup, 1) := by decide +kernel
theorem d_M_keep_46 : decode (ab_bc mt_M_keep) 46 = .ok (.getfield 212, 3) := by decide +kernel
theorem d_M_keep_49 : decode (ab_bc mt_M_keep) 49 = .ok (.iconst 1, 1) := by decide +kernel
theorem d_M_keep_50 : decode (ab_bc mt_M_keep) 50 = .ok (.isub, 1) := by decide +kernel
theorem d_M_keep_51 : decode (ab_bc mt_M_keep) 51 = .ok (.putfield 212, 3) := by decide +kernel
theorem d_M_keep_54 : decode (ab_bc mt_M_keep) 54 = .ok (.iconst 0, 1) := by decide +kernel
theorem d_M_keep_55 : decode (ab_bc mt_M_keep) 55 = .ok (.istore_n 1, 1) := by decide +kernel
theorem d_M_keep_56 : decode (ab_bc mt_M_keep) 56 = .ok (.iload_n 1, 1) := by decide +kernel
theorem d_M_keep_57 : decode (ab_bc mt_M_keep) 57 = .ok (.sipush 399, 3) := by decide +kernel
theorem d_M_keep_60 : decode (ab_bc mt_M_keep) 60 = .ok (.if_icmp .ge 30, 3) := by decide +kernel
theorem d_M_keep_63 : decode (ab_bc mt_M_keep) 63 = .ok (.aload_n 0, 1) := by decide +kernel
theorem d_M_keep_64 : decode (ab_bc mt_M_keep) 64 = .ok (.getfield 81, 3) := by decide +kernel
theorem d_M_keep_67 : decode (ab_bc mt_M_keep) 67 = .ok (.sipush 399, 3) := by decide +kernel
theorem d_M_keep_70 : decode (ab_bc mt_M_keep) 70 = .ok (.aload_n 0, 1) := by decide +kernel
theorem d_M_keep_71 : decode (ab_bc mt_M_keep) 71 = .ok (.getfield 212, 3) := by decide +kernel
theorem d_M_keep_74 : decode (ab_bc mt_M_keep) 74 = .ok (.imul, 1) := by decide +kernel
theorem d_M_keep_75 : decode (ab_bc mt_M_keep) 75 = .ok (.iload_n 1, 1) := by decide +kernel
theorem d_M_keep_76 : decode (ab_bc mt_M_keep) 76 = .ok (.iadd, 1) := by decide +kernel
theorem d_M_keep_77 : decode (ab_bc mt_M_keep) 77 = .ok (.aload_n 0, 1) := by decide +kernel
theorem d_M_keep_78 : decode (ab_bc mt_M_keep) 78 = .ok (.getfield 24, 3) := by decide +kernel
theorem d_M_keep_81 : decode (ab_bc mt_M_keep) 81 = .ok (.iload_n 1, 1) := by decide +kernel
theorem d_M_keep_82 : decode (ab_bc mt_M_keep) 82 = .ok (.iaload, 1) := by decide +kernel
theorem d_M_keep_83 : decode (ab_bc mt_M_keep) 83 = .ok (.iastore, 1) := by decide +kernel
theorem d_M_keep_84 : decode (ab_bc mt_M_keep) 84 = .ok (.iinc 1 1, 3) := by decide +kernel
theorem d_M_keep_87 : decode (ab_bc mt_M_keep) 87 = .ok (.goto (-31), 3) := by decide +kernel
theorem d_M_keep_90 : decode (ab_bc mt_M_keep) 90 = .ok (.aload_n 0, 1) := by decide +kernel
theorem d_M_keep_91 : decode (ab_bc mt_M_keep) 91 = .ok (.dup, 1) := by decide +kernel
theorem d_M_keep_92 : decode (ab_bc mt_M_keep) 92 = .ok (.getfield 212, 3) := by decide +kernel
theorem d_M_keep_95 : decode (ab_bc mt_M_keep) 95 = .ok (.iconst 1, 1) := by decide +kernel
theorem d_M_keep_96 : decode (ab_bc mt_M_keep) 96 = .ok (.iadd, 1) := by decide +kernel
theorem d_M_keep_97 : decode (ab_bc mt_M_keep) 97 = .ok (.putfield 212, 3) := by decide +kernel
theorem d_M_keep_100 : decode (ab_bc mt_M_keep) 100 = .ok (.return_, 1) := by decide +kernel
-- CableKeeperModel.keep()V over mx
theorem q_M_keep_0 {w : ab_Wd} {d n nc ns : Nat} {I : Nat → Nat → Int32} {L : Nat → Nat → Int64} {res : ab_Re}  (hc : nc ≤ res.2.2.2.2.2.1) (hs : ns ≤ res.2.2.2.2.2.2)
    (h : ((¬ (I mx 41) = 40 → (ab_E w d mt_M_keep 54 [.ref mx, .null] [] (I, L, ab_RR, n, nc, ns) res)) ∧ ((I mx 41) = 40 → (ab_E w d mt_M_keep 13 [.ref mx, .int 399] [] (I, L, ab_RR, n, nc, ns) res)))) : ab_E w d mt_M_keep 0 [.ref mx, .null] [] (I, L, ab_RR, n, nc, ns) res := by
  refine ab_aload_n (i := 0) d_M_keep_0 rfl rfl ?_
  refine ab_getI (ci := 11) (k := 41) d_M_keep_1 v_1409 rfl (by decide) (by decide) rfl ?_
  refine ab_bipush (v := 40) d_M_keep_4 rfl ?_
  refine ab_icmp_ne (tgt := 54) d_M_keep_6 (by decide) (fun c1 => ?_) (fun c1 => ?_)
  · have h := h.1 c1
    exact h
  · have h := h.2 c1
    refine ab_sipush (v := 399) d_M_keep_9 rfl ?_
    refine ab_istore_n (i := 1) d_M_keep_12 rfl (by decide) (Or.inr rfl) ?_
    exact h
theorem q_M_keep_13 {w : ab_Wd} {d n nc ns : Nat} {I : Nat → Nat → Int32} {L : Nat → Nat → Int64} {res : ab_Re} (v1 : Int32) (hc : nc ≤ res.2.2.2.2.2.1) (hs : ns ≤ res.2.2.2.2.2.2)
    (h : ((15960 ≤ v1 → (ab_E w d mt_M_keep 54 [.ref mx, .null] [] ((ab_up I mx 41 ((I mx 41) - 1)), L, ab_RR, n, nc, ns) res)) ∧ (¬ 15960 ≤ v1 → ((vp_in v1 15960) ∧ (vp_in (v1 - 399) 15960) ∧ ab_E w d mt_M_keep 13 [.ref mx, .int (v1 + 1)] [] ((ab_up I mx_past (v1 - 399).toNatClampNeg (I mx_past v1.toNatClampNeg)), L, ab_RR, n, nc, ns) res)))) : ab_E w d mt_M_keep 13 [.ref mx, .int v1] [] (I, L, ab_RR, n, nc, ns) res := by
  refine ab_iload_n (i := 1) d_M_keep_13 rfl rfl ?_
  refine ab_aload_n (i := 0) d_M_keep_14 rfl rfl ?_
  refine ab_getR (ci := 11) (k := 42) (j := mx_past) d_M_keep_15 v_1410 rfl (by decide) (by decide) rfl r_mx_42 ?_
  refine ab_alen (v := 15960) d_M_keep_18 (by decide) (by decide) rfl ?_
  refine ab_icmp_ge (tgt := 44) d_M_keep_19 (by decide) (fun c1 => ?_) (fun c1 => ?_)
  · have h := h.1 c1
    refine ab_aload_n (i := 0) d_M_keep_44 rfl rfl ?_
    refine ab_dupr d_M_keep_45 ?_
    refine ab_getI (ci := 11) (k := 41) d_M_keep_46 v_1409 rfl (by decide) (by decide) rfl ?_
    refine ab_iconst (v := 1) d_M_keep_49 rfl ?_
    refine ab_isub d_M_keep_50 ?_
    refine ab_putI (ci := 11) (k := 41) d_M_keep_51 v_1409 rfl (by decide) (by decide) rfl (Or.inl rfl) rfl rfl ?_
    refine ab_drop 1 ?_
    exact h
  · have h := h.2 c1
    refine ab_aload_n (i := 0) d_M_keep_22 rfl rfl ?_
    refine ab_getR (ci := 11) (k := 42) (j := mx_past) d_M_keep_23 v_1410 rfl (by decide) (by decide) rfl r_mx_42 ?_
    refine ab_iload_n (i := 1) d_M_keep_26 rfl rfl ?_
    refine ab_sipush (v := 399) d_M_keep_27 rfl ?_
    refine ab_isub d_M_keep_30 ?_
    refine ab_aload_n (i := 0) d_M_keep_31 rfl rfl ?_
    refine ab_getR (ci := 11) (k := 42) (j := mx_past) d_M_keep_32 v_1410 rfl (by decide) (by decide) rfl r_mx_42 ?_
    refine ab_iload_n (i := 1) d_M_keep_35 rfl rfl ?_
    have g2 := h.1; have h := h.2
    refine ab_iald d_M_keep_36 rfl rfl g2 ?_
    have g3 := h.1; have h := h.2
    refine ab_iast d_M_keep_37 rfl rfl g3 ?_
    refine ab_iinc (i := 1) (v := (v1 + 1)) d_M_keep_38 rfl rfl (by decide) (Or.inr rfl) ?_
    refine ab_goto (tgt := 13) d_M_keep_41 (by decide) ?_
    exact h
theorem q_M_keep_54 {w : ab_Wd} {d n nc ns : Nat} {I : Nat → Nat → Int32} {L : Nat → Nat → Int64} {res : ab_Re}  (hc : nc ≤ res.2.2.2.2.2.1) (hs : ns ≤ res.2.2.2.2.2.2)
    (h : ab_E w d mt_M_keep 56 [.ref mx, .int 0] [] (I, L, ab_RR, n, nc, ns) res) : ab_E w d mt_M_keep 54 [.ref mx, .null] [] (I, L, ab_RR, n, nc, ns) res := by
  refine ab_iconst (v := 0) d_M_keep_54 rfl ?_
  refine ab_istore_n (i := 1) d_M_keep_55 rfl (by decide) (Or.inr rfl) ?_
  exact h
theorem q_M_keep_56 {w : ab_Wd} {d n nc ns : Nat} {I : Nat → Nat → Int32} {L : Nat → Nat → Int64} {res : ab_Re} (v1 : Int32) (hc : nc ≤ res.2.2.2.2.2.1) (hs : ns ≤ res.2.2.2.2.2.2)
    (h : ((399 ≤ v1 → (res = (.inl none, ((ab_up I mx 41 ((I mx 41) + 1)), L, ab_RR, n, nc, ns)))) ∧ (¬ 399 ≤ v1 → ((vp_in v1 399) ∧ (vp_in ((399 * (I mx 41)) + v1) 15960) ∧ ab_E w d mt_M_keep 56 [.ref mx, .int (v1 + 1)] [] ((ab_up I mx_past ((399 * (I mx 41)) + v1).toNatClampNeg (I mx_now v1.toNatClampNeg)), L, ab_RR, n, nc, ns) res)))) : ab_E w d mt_M_keep 56 [.ref mx, .int v1] [] (I, L, ab_RR, n, nc, ns) res := by
  refine ab_iload_n (i := 1) d_M_keep_56 rfl rfl ?_
  refine ab_sipush (v := 399) d_M_keep_57 rfl ?_
  refine ab_icmp_ge (tgt := 90) d_M_keep_60 (by decide) (fun c1 => ?_) (fun c1 => ?_)
  · have h := h.1 c1
    refine ab_aload_n (i := 0) d_M_keep_90 rfl rfl ?_
    refine ab_dupr d_M_keep_91 ?_
    refine ab_getI (ci := 11) (k := 41) d_M_keep_92 v_1409 rfl (by decide) (by decide) rfl ?_
    refine ab_iconst (v := 1) d_M_keep_95 rfl ?_
    refine ab_iadd d_M_keep_96 ?_
    refine ab_putI (ci := 11) (k := 41) d_M_keep_97 v_1409 rfl (by decide) (by decide) rfl (Or.inl rfl) rfl rfl ?_
    exact ab_vret d_M_keep_100 rfl h
  · have h := h.2 c1
    refine ab_aload_n (i := 0) d_M_keep_63 rfl rfl ?_
    refine ab_getR (ci := 11) (k := 42) (j := mx_past) d_M_keep_64 v_1410 rfl (by decide) (by decide) rfl r_mx_42 ?_
    refine ab_sipush (v := 399) d_M_keep_67 rfl ?_
    refine ab_aload_n (i := 0) d_M_keep_70 rfl rfl ?_
    refine ab_getI (ci := 11) (k := 41) d_M_keep_71 v_1409 rfl (by decide) (by decide) rfl ?_
    refine ab_imul d_M_keep_74 ?_
    refine ab_iload_n (i := 1) d_M_keep_75 rfl rfl ?_
    refine ab_iadd d_M_keep_76 ?_
    refine ab_aload_n (i := 0) d_M_keep_77 rfl rfl ?_
    refine ab_getR (ci := 11) (k := 4) (j := mx_now) d_M_keep_78 v_1372 rfl (by decide) (by decide) rfl r_mx_4 ?_
    refine ab_iload_n (i := 1) d_M_keep_81 rfl rfl ?_
    have g2 := h.1; have h := h.2
    refine ab_iald d_M_keep_82 rfl rfl g2 ?_
    have g3 := h.1; have h := h.2
    refine ab_iast d_M_keep_83 rfl rfl g3 ?_
    refine ab_iinc (i := 1) (v := (v1 + 1)) d_M_keep_84 rfl rfl (by decide) (Or.inr rfl) ?_
    refine ab_goto (tgt := 56) d_M_keep_87 (by decide) ?_
    exact h
theorem d_M_price_0 : decode (ab_bc mt_M_price) 0 = .ok (.aload_n 0, 1) := by decide +kernel
theorem d_M_price_1 : decode (ab_bc mt_M_price) 1 = .ok (.iconst 0, 1) := by decide +kernel
theorem d_M_price_2 : decode (ab_bc mt_M_price) 2 = .ok (.putfield 108, 3) := by decide +kernel
theorem d_M_price_5 : decode (ab_bc mt_M_price) 5 = .ok (.aload_n 0, 1) := by decide +kernel
theorem d_M_price_6 : decode (ab_bc mt_M_price) 6 = .ok (.iload_n 1, 1) := by decide +kernel
theorem d_M_price_7 : decode (ab_bc mt_M_price) 7 = .ok (.invokevirtual 348, 3) := by decide +kernel
theorem d_M_price_10 : decode (ab_bc mt_M_price) 10 = .ok (.ifCond .eq 23, 3) := by decide +kernel
theorem d_M_price_13 : decode (ab_bc mt_M_price) 13 = .ok (.iload_n 2, 1) := by decide +kernel
theorem d_M_price_14 : decode (ab_bc mt_M_price) 14 = .ok (.iconst 1, 1) := by decide +kernel
theorem d_M_price_15 : decode (ab_bc mt_M_price) 15 = .ok (.sipush 999, 3) := by decide +kernel
theorem d_M_price_18 : decode (ab_bc mt_M_price) 18 = .ok (.invokestatic 344, 3) := by decide +kernel
theorem d_M_price_21 : decode (ab_bc mt_M_price) 21 = .ok (.ifCond .eq 12, 3) := by decide +kernel
theorem d_M_price_24 : decode (ab_bc mt_M_price) 24 = .ok (.aload_n 0, 1) := by decide +kernel
theorem d_M_price_25 : decode (ab_bc mt_M_price) 25 = .ok (.iload_n 1, 1) := by decide +kernel
theorem d_M_price_26 : decode (ab_bc mt_M_price) 26 = .ok (.invokevirtual 222, 3) := by decide +kernel
theorem d_M_price_29 : decode (ab_bc mt_M_price) 29 = .ok (.iload_n 2, 1) := by decide +kernel
theorem d_M_price_30 : decode (ab_bc mt_M_price) 30 = .ok (.if_icmp .ne 9, 3) := by decide +kernel
theorem d_M_price_33 : decode (ab_bc mt_M_price) 33 = .ok (.aload_n 0, 1) := by decide +kernel
theorem d_M_price_34 : decode (ab_bc mt_M_price) 34 = .ok (.iconst 1, 1) := by decide +kernel
theorem d_M_price_35 : decode (ab_bc mt_M_price) 35 = .ok (.invokevirtual 434, 3) := by decide +kernel
theorem d_M_price_38 : decode (ab_bc mt_M_price) 38 = .ok (.ireturn, 1) := by decide +kernel
theorem d_M_price_39 : decode (ab_bc mt_M_price) 39 = .ok (.aload_n 0, 1) := by decide +kernel
theorem d_M_price_40 : decode (ab_bc mt_M_price) 40 = .ok (.invokevirtual 437, 3) := by decide +kernel
theorem d_M_price_43 : decode (ab_bc mt_M_price) 43 = .ok (.aload_n 0, 1) := by decide +kernel
theorem d_M_price_44 : decode (ab_bc mt_M_price) 44 = .ok (.iload_n 1, 1) := by decide +kernel
theorem d_M_price_45 : decode (ab_bc mt_M_price) 45 = .ok (.invokevirtual 222, 3) := by decide +kernel
theorem d_M_price_48 : decode (ab_bc mt_M_price) 48 = .ok (.istore_n 3, 1) := by decide +kernel
theorem d_M_price_49 : decode (ab_bc mt_M_price) 49 = .ok (.aload_n 0, 1) := by decide +kernel
theorem d_M_price_50 : decode (ab_bc mt_M_price) 50 = .ok (.iload_n 1, 1) := by decide +kernel
theorem d_M_price_51 : decode (ab_bc mt_M_price) 51 = .ok (.iload_n 2, 1) := by decide +kernel
theorem d_M_price_52 : decode (ab_bc mt_M_price) 52 = .ok (.invokevirtual 440, 3) := by decide +kernel
theorem d_M_price_55 : decode (ab_bc mt_M_price) 55 = .ok (.iload_n 3, 1) := by decide +kernel
theorem d_M_price_56 : decode (ab_bc mt_M_price) 56 = .ok (.ireturn, 1) := by decide +kernel
-- CableKeeperModel.price(II)I over mx
theorem q_M_price_0 {w : ab_Wd} {d n nc ns : Nat} {I : Nat → Nat → Int32} {L : Nat → Nat → Int64} {res : ab_Re} (v1 : Int32) (v2 : Int32) (hc : nc ≤ res.2.2.2.2.2.1) (hs : ns ≤ res.2.2.2.2.2.2)
    (h : ∃ (r1 : Int32), ab_C w d mt_M_isCable [.ref mx, .int v1] ((ab_up I mx 1 0), L, ab_RR, n, nc, ns) (.inl (some (.int r1)), ((ab_up I mx 1 0), L, ab_RR, n, nc, ns)) ∧ ((r1 = 0 → (ab_E w (d + 1) mt_M_price 33 [.ref mx, .int v1, .int v2, .null] [] ((ab_up I mx 1 0), L, ab_RR, n, nc, ns) res)) ∧ (¬ r1 = 0 → (∃ (r3 : Int32), ab_C w d mt_M_isIn [.int v2, .int 1, .int 999] ((ab_up I mx 1 0), L, ab_RR, n, nc, ns) (.inl (some (.int r3)), ((ab_up I mx 1 0), L, ab_RR, n, nc, ns)) ∧ ((r3 = 0 → (ab_E w (d + 1) mt_M_price 33 [.ref mx, .int v1, .int v2, .null] [] ((ab_up I mx 1 0), L, ab_RR, n, nc, ns) res)) ∧ (¬ r3 = 0 → (∃ (r5 : Int32), ab_C w d mt_M_priceOf [.ref mx, .int v1] ((ab_up I mx 1 0), L, ab_RR, n, nc, ns) (.inl (some (.int r5)), ((ab_up I mx 1 0), L, ab_RR, n, nc, ns)) ∧ ((¬ r5 = v2 → (∃ (I8 : Nat → Nat → Int32), ab_C w d mt_M_keep [.ref mx] ((ab_up I mx 1 0), L, ab_RR, n, nc, ns) (.inl none, (I8, L, ab_RR, n, nc, ns)) ∧ ∃ (r9 : Int32), ab_C w d mt_M_priceOf [.ref mx, .int v1] (I8, L, ab_RR, n, nc, ns) (.inl (some (.int r9)), (I8, L, ab_RR, n, nc, ns)) ∧ ∃ (I11 : Nat → Nat → Int32), ab_C w d mt_M_pricesNow [.ref mx, .int v1, .int v2] (I8, L, ab_RR, n, nc, ns) (.inl none, (I11, L, ab_RR, n, nc, ns)) ∧ res = (.inl (some (.int r9)), (I11, L, ab_RR, n, nc, ns)))) ∧ (r5 = v2 → (ab_E w (d + 1) mt_M_price 33 [.ref mx, .int v1, .int v2, .null] [] ((ab_up I mx 1 0), L, ab_RR, n, nc, ns) res)))))))))) : ab_E w (d + 1) mt_M_price 0 [.ref mx, .int v1, .int v2, .null] [] (I, L, ab_RR, n, nc, ns) res := by
  refine ab_aload_n (i := 0) d_M_price_0 rfl rfl ?_
  refine ab_iconst (v := 0) d_M_price_1 rfl ?_
  refine ab_putI (ci := 11) (k := 1) d_M_price_2 v_1369 rfl (by decide) (by decide) rfl (Or.inl rfl) rfl rfl ?_
  refine ab_aload_n (i := 0) d_M_price_5 rfl rfl ?_
  refine ab_iload_n (i := 1) d_M_price_6 rfl rfl ?_
  obtain ⟨r1, hC, h⟩ := h
  refine ab_callV (me2 := mt_M_isCable) (b := mx) (as := [.int v1]) (st := []) (rv := (some (.int r1))) (M2 := ((ab_up I mx 1 0), L, ab_RR, n, nc, ns)) d_M_price_7 ce_M_isCable v_1748 v_1750 v_105 (by decide) rfl (Nat.le_of_ble_eq_true rfl) hC (Nat.le_refl _) (Nat.le_refl _) hc hs (fun j h9 => by cases h9) (fun _ _ => rfl) ?_
  show ab_E w (d + 1) mt_M_price 10 [.ref mx, .int v1, .int v2, .null] [.int r1] ((ab_up I mx 1 0), L, ab_RR, n, nc, ns) res
  refine ab_if_eq (tgt := 33) d_M_price_10 (by decide) (fun c2 => ?_) (fun c2 => ?_)
  · have h := h.1 c2
    exact h
  · have h := h.2 c2
    refine ab_iload_n (i := 2) d_M_price_13 rfl rfl ?_
    refine ab_iconst (v := 1) d_M_price_14 rfl ?_
    refine ab_sipush (v := 999) d_M_price_15 rfl ?_
    obtain ⟨r3, hC, h⟩ := h
    refine ab_callS (me2 := mt_M_isIn) (as := [.int v2, .int 1, .int 999]) (st := []) (rv := (some (.int r3))) (M2 := ((ab_up I mx 1 0), L, ab_RR, n, nc, ns)) d_M_price_18 ce_M_isIn ⟨v_1753, Or.inl v_1752⟩ (Nat.le_of_ble_eq_true rfl) hC (Nat.le_refl _) (Nat.le_refl _) hc hs (fun j h9 => by cases h9) (fun _ _ => rfl) ?_
    show ab_E w (d + 1) mt_M_price 21 [.ref mx, .int v1, .int v2, .null] [.int r3] ((ab_up I mx 1 0), L, ab_RR, n, nc, ns) res
    refine ab_if_eq (tgt := 33) d_M_price_21 (by decide) (fun c4 => ?_) (fun c4 => ?_)
    · have h := h.1 c4
      exact h
    · have h := h.2 c4
      refine ab_aload_n (i := 0) d_M_price_24 rfl rfl ?_
      refine ab_iload_n (i := 1) d_M_price_25 rfl rfl ?_
      obtain ⟨r5, hC, h⟩ := h
      refine ab_callV (me2 := mt_M_priceOf) (b := mx) (as := [.int v1]) (st := []) (rv := (some (.int r5))) (M2 := ((ab_up I mx 1 0), L, ab_RR, n, nc, ns)) d_M_price_26 ce_M_priceOf v_1654 v_1656 v_83 (by decide) rfl (Nat.le_of_ble_eq_true rfl) hC (Nat.le_refl _) (Nat.le_refl _) hc hs (fun j h9 => by cases h9) (fun _ _ => rfl) ?_
      show ab_E w (d + 1) mt_M_price 29 [.ref mx, .int v1, .int v2, .null] [.int r5] ((ab_up I mx 1 0), L, ab_RR, n, nc, ns) res
      refine ab_iload_n (i := 2) d_M_price_29 rfl rfl ?_
      refine ab_icmp_ne (tgt := 39) d_M_price_30 (by decide) (fun c6 => ?_) (fun c6 => ?_)
      · have h := h.1 c6
        refine ab_aload_n (i := 0) d_M_price_39 rfl rfl ?_
        obtain ⟨I8, hC, h⟩ := h
        refine ab_callV (me2 := mt_M_keep) (b := mx) (as := []) (st := []) (rv := none) (M2 := (I8, L, ab_RR, n, nc, ns)) d_M_price_40 ce_M_keep v_1904 v_1906 v_129 (by decide) rfl (Nat.le_of_ble_eq_true rfl) hC (Nat.le_refl _) (Nat.le_refl _) hc hs (fun j h9 => by cases h9) (fun _ _ => rfl) ?_
        show ab_E w (d + 1) mt_M_price 43 [.ref mx, .int v1, .int v2, .null] [] (I8, L, ab_RR, n, nc, ns) res
        refine ab_aload_n (i := 0) d_M_price_43 rfl rfl ?_
        refine ab_iload_n (i := 1) d_M_price_44 rfl rfl ?_
        obtain ⟨r9, hC, h⟩ := h
        refine ab_callV (me2 := mt_M_priceOf) (b := mx) (as := [.int v1]) (st := []) (rv := (some (.int r9))) (M2 := (I8, L, ab_RR, n, nc, ns)) d_M_price_45 ce_M_priceOf v_1654 v_1656 v_83 (by decide) rfl (Nat.le_of_ble_eq_true rfl) hC (Nat.le_refl _) (Nat.le_refl _) hc hs (fun j h9 => by cases h9) (fun _ _ => rfl) ?_
        show ab_E w (d + 1) mt_M_price 48 [.ref mx, .int v1, .int v2, .null] [.int r9] (I8, L, ab_RR, n, nc, ns) res
        refine ab_istore_n (i := 3) d_M_price_48 rfl (by decide) (Or.inr rfl) ?_
        refine ab_aload_n (i := 0) d_M_price_49 rfl rfl ?_
        refine ab_iload_n (i := 1) d_M_price_50 rfl rfl ?_
        refine ab_iload_n (i := 2) d_M_price_51 rfl rfl ?_
        obtain ⟨I11, hC, h⟩ := h
        refine ab_callV (me2 := mt_M_pricesNow) (b := mx) (as := [.int v1, .int v2]) (st := []) (rv := none) (M2 := (I11, L, ab_RR, n, nc, ns)) d_M_price_52 ce_M_pricesNow v_1908 v_1910 v_130 (by decide) rfl (Nat.le_of_ble_eq_true rfl) hC (Nat.le_refl _) (Nat.le_refl _) hc hs (fun j h9 => by cases h9) (fun _ _ => rfl) ?_
        show ab_E w (d + 1) mt_M_price 55 [.ref mx, .int v1, .int v2, .int r9] [] (I11, L, ab_RR, n, nc, ns) res
        refine ab_iload_n (i := 3) d_M_price_55 rfl rfl ?_
        exact ab_iret (ty := .int) d_M_price_56 rfl rfl h
      · have h := h.2 c6
        exact h
theorem q_M_price_33 {w : ab_Wd} {d n nc ns : Nat} {I : Nat → Nat → Int32} {L : Nat → Nat → Int64} {res : ab_Re} (v1 : Int32) (v2 : Int32) (hc : nc ≤ res.2.2.2.2.2.1) (hs : ns ≤ res.2.2.2.2.2.2)
    (h : ∃ (r1 : Int32) (I2 : Nat → Nat → Int32), ab_C w d mt_M_refuse [.ref mx, .int 1] (I, L, ab_RR, n, nc, ns) (.inl (some (.int r1)), (I2, L, ab_RR, n, nc, ns)) ∧ res = (.inl (some (.int r1)), (I2, L, ab_RR, n, nc, ns))) : ab_E w (d + 1) mt_M_price 33 [.ref mx, .int v1, .int v2, .null] [] (I, L, ab_RR, n, nc, ns) res := by
  refine ab_aload_n (i := 0) d_M_price_33 rfl rfl ?_
  refine ab_iconst (v := 1) d_M_price_34 rfl ?_
  obtain ⟨r1, I2, hC, h⟩ := h
  refine ab_callV (me2 := mt_M_refuse) (b := mx) (as := [.int 1]) (st := []) (rv := (some (.int r1))) (M2 := (I2, L, ab_RR, n, nc, ns)) d_M_price_35 ce_M_refuse v_1900 v_1902 v_128 (by decide) rfl (Nat.le_of_ble_eq_true rfl) hC (Nat.le_refl _) (Nat.le_refl _) hc hs (fun j h9 => by cases h9) (fun _ _ => rfl) ?_
  show ab_E w (d + 1) mt_M_price 38 [.ref mx, .int v1, .int v2, .null] [.int r1] (I2, L, ab_RR, n, nc, ns) res
  exact ab_iret (ty := .int) d_M_price_38 rfl rfl h
theorem d_M_hasCables_0 : decode (ab_bc mt_M_hasCables) 0 = .ok (.iconst 0, 1) := by decide +kernel
theorem d_M_hasCables_1 : decode (ab_bc mt_M_hasCables) 1 = .ok (.istore_n 2, 1) := by decide +kernel
theorem d_M_hasCables_2 : decode (ab_bc mt_M_hasCables) 2 = .ok (.iconst 0, 1) := by decide +kernel
theorem d_M_hasCables_3 : decode (ab_bc mt_M_hasCables) 3 = .ok (.istore_n 3, 1) := by decide +kernel
theorem d_M_hasCables_4 : decode (ab_bc mt_M_hasCables) 4 = .ok (.iload_n 3, 1) := by decide +kernel
theorem d_M_hasCables_5 : decode (ab_bc mt_M_hasCables) 5 = .ok (.aload_n 0, 1) := by decide +kernel
theorem d_M_hasCables_6 : decode (ab_bc mt_M_hasCables) 6 = .ok (.invokevirtual 234, 3) := by decide +kernel
theorem d_M_hasCables_9 : decode (ab_bc mt_M_hasCables) 9 = .ok (.if_icmp .ge 32, 3) := by decide +kernel
theorem d_M_hasCables_12 : decode (ab_bc mt_M_hasCables) 12 = .ok (.iload_n 2, 1) := by decide +kernel
theorem d_M_hasCables_13 : decode (ab_bc mt_M_hasCables) 13 = .ok (.ifCond .ne 16, 3) := by decide +kernel
theorem d_M_hasCables_16 : decode (ab_bc mt_M_hasCables) 16 = .ok (.aload_n 0, 1) := by decide +kernel
theorem d_M_hasCables_17 : decode (ab_bc mt_M_hasCables) 17 = .ok (.getfield 24, 3) := by decide +kernel
theorem d_M_hasCables_20 : decode (ab_bc mt_M_hasCables) 20 = .ok (.bipush 75, 2) := by decide +kernel
theorem d_M_hasCables_22 : decode (ab_bc mt_M_hasCables) 22 = .ok (.iload_n 3, 1) := by decide +kernel
theorem d_M_hasCables_23 : decode (ab_bc mt_M_hasCables) 23 = .ok (.iadd, 1) := by decide +kernel
theorem d_M_hasCables_24 : decode (ab_bc mt_M_hasCables) 24 = .ok (.iaload, 1) := by decide +kernel
theorem d_M_hasCables_25 : decode (ab_bc mt_M_hasCables) 25 = .ok (.iload_n 1, 1) := by decide +kernel
theorem d_M_hasCables_26 : decode (ab_bc mt_M_hasCables) 26 = .ok (.if_icmp .ne 7, 3) := by decide +kernel
theorem d_M_hasCables_29 : decode (ab_bc mt_M_hasCables) 29 = .ok (.iconst 1, 1) := by decide +kernel
theorem d_M_hasCables_30 : decode (ab_bc mt_M_hasCables) 30 = .ok (.goto 4, 3) := by decide +kernel
theorem d_M_hasCables_33 : decode (ab_bc mt_M_hasCables) 33 = .ok (.iconst 0, 1) := by decide +kernel
theorem d_M_hasCables_34 : decode (ab_bc mt_M_hasCables) 34 = .ok (.istore_n 2, 1) := by decide +kernel
theorem d_M_hasCables_35 : decode (ab_bc mt_M_hasCables) 35 = .ok (.iinc 3 1, 3) := by decide +kernel
theorem d_M_hasCables_38 : decode (ab_bc mt_M_hasCables) 38 = .ok (.goto (-34), 3) := by decide +kernel
theorem d_M_hasCables_41 : decode (ab_bc mt_M_hasCables) 41 = .ok (.iload_n 2, 1) := by decide +kernel
theorem d_M_hasCables_42 : decode (ab_bc mt_M_hasCables) 42 = .ok (.ireturn, 1) := by decide +kernel
-- CableKeeperModel.hasCables(I)Z over mx
theorem q_M_hasCables_0 {w : ab_Wd} {d n nc ns : Nat} {I : Nat → Nat → Int32} {L : Nat → Nat → Int64} {res : ab_Re} (v1 : Int32) (hc : nc ≤ res.2.2.2.2.2.1) (hs : ns ≤ res.2.2.2.2.2.2)
    (h : ab_E w (d + 1) mt_M_hasCables 4 [.ref mx, .int v1, .int 0, .int 0] [] (I, L, ab_RR, n, nc, ns) res) : ab_E w (d + 1) mt_M_hasCables 0 [.ref mx, .int v1, .null, .null] [] (I, L, ab_RR, n, nc, ns) res := by
  refine ab_iconst (v := 0) d_M_hasCables_0 rfl ?_
  refine ab_istore_n (i := 2) d_M_hasCables_1 rfl (by decide) (Or.inr rfl) ?_
  refine ab_iconst (v := 0) d_M_hasCables_2 rfl ?_
  refine ab_istore_n (i := 3) d_M_hasCables_3 rfl (by decide) (Or.inr rfl) ?_
  exact h
theorem q_M_hasCables_4 {w : ab_Wd} {d n nc ns : Nat} {I : Nat → Nat → Int32} {L : Nat → Nat → Int64} {res : ab_Re} (v1 : Int32) (v2 : Int32) (v3 : Int32) (hc : nc ≤ res.2.2.2.2.2.1) (hs : ns ≤ res.2.2.2.2.2.2)
    (h : ∃ (r1 : Int32), ab_C w d mt_M_many [.ref mx] (I, L, ab_RR, n, nc, ns) (.inl (some (.int r1)), (I, L, ab_RR, n, nc, ns)) ∧ ((r1 ≤ v3 → ((narrow .boolean (.int v2) = .int v2) ∧ res = (.inl (some (.int v2)), (I, L, ab_RR, n, nc, ns)))) ∧ (¬ r1 ≤ v3 → ((¬ v2 = 0 → (ab_E w (d + 1) mt_M_hasCables 29 [.ref mx, .int v1, .int v2, .int v3] [] (I, L, ab_RR, n, nc, ns) res)) ∧ (v2 = 0 → ((vp_in (75 + v3) 399) ∧ ((¬ (I mx_now (75 + v3).toNatClampNeg) = v1 → (ab_E w (d + 1) mt_M_hasCables 34 [.ref mx, .int v1, .int v2, .int v3] [.int 0] (I, L, ab_RR, n, nc, ns) res)) ∧ ((I mx_now (75 + v3).toNatClampNeg) = v1 → (ab_E w (d + 1) mt_M_hasCables 29 [.ref mx, .int v1, .int v2, .int v3] [] (I, L, ab_RR, n, nc, ns) res))))))))) : ab_E w (d + 1) mt_M_hasCables 4 [.ref mx, .int v1, .int v2, .int v3] [] (I, L, ab_RR, n, nc, ns) res := by
  refine ab_iload_n (i := 3) d_M_hasCables_4 rfl rfl ?_
  refine ab_aload_n (i := 0) d_M_hasCables_5 rfl rfl ?_
  obtain ⟨r1, hC, h⟩ := h
  refine ab_callV (me2 := mt_M_many) (b := mx) (as := []) (st := [.int v3]) (rv := (some (.int r1))) (M2 := (I, L, ab_RR, n, nc, ns)) d_M_hasCables_6 ce_M_many v_1635 v_1637 v_79 (by decide) rfl (Nat.le_of_ble_eq_true rfl) hC (Nat.le_refl _) (Nat.le_refl _) hc hs (fun j h9 => by cases h9) (fun _ _ => rfl) ?_
  show ab_E w (d + 1) mt_M_hasCables 9 [.ref mx, .int v1, .int v2, .int v3] [.int r1, .int v3] (I, L, ab_RR, n, nc, ns) res
  refine ab_icmp_ge (tgt := 41) d_M_hasCables_9 (by decide) (fun c2 => ?_) (fun c2 => ?_)
  · have h := h.1 c2
    refine ab_iload_n (i := 2) d_M_hasCables_41 rfl rfl ?_
    have g := h.1; have h := h.2
    exact ab_iret (ty := .boolean) d_M_hasCables_42 rfl g h
  · have h := h.2 c2
    refine ab_iload_n (i := 2) d_M_hasCables_12 rfl rfl ?_
    refine ab_if_ne (tgt := 29) d_M_hasCables_13 (by decide) (fun c3 => ?_) (fun c3 => ?_)
    · have h := h.1 c3
      exact h
    · have h := h.2 c3
      refine ab_aload_n (i := 0) d_M_hasCables_16 rfl rfl ?_
      refine ab_getR (ci := 11) (k := 4) (j := mx_now) d_M_hasCables_17 v_1372 rfl (by decide) (by decide) rfl r_mx_4 ?_
      refine ab_bipush (v := 75) d_M_hasCables_20 rfl ?_
      refine ab_iload_n (i := 3) d_M_hasCables_22 rfl rfl ?_
      refine ab_iadd d_M_hasCables_23 ?_
      have g4 := h.1; have h := h.2
      refine ab_iald d_M_hasCables_24 rfl rfl g4 ?_
      refine ab_iload_n (i := 1) d_M_hasCables_25 rfl rfl ?_
      refine ab_icmp_ne (tgt := 33) d_M_hasCables_26 (by decide) (fun c5 => ?_) (fun c5 => ?_)
      · have h := h.1 c5
        refine ab_iconst (v := 0) d_M_hasCables_33 rfl ?_
        exact h
      · have h := h.2 c5
        exact h
theorem q_M_hasCables_29 {w : ab_Wd} {d n nc ns : Nat} {I : Nat → Nat → Int32} {L : Nat → Nat → Int64} {res : ab_Re} (v1 : Int32) (v2 : Int32) (v3 : Int32) (hc : nc ≤ res.2.2.2.2.2.1) (hs : ns ≤ res.2.2.2.2.2.2)
    (h : ab_E w (d + 1) mt_M_hasCables 34 [.ref mx, .int v1, .int v2, .int v3] [.int 1] (I, L, ab_RR, n, nc, ns) res) : ab_E w (d + 1) mt_M_hasCables 29 [.ref mx, .int v1, .int v2, .int v3] [] (I, L, ab_RR, n, nc, ns) res := by
  refine ab_iconst (v := 1) d_M_hasCables_29 rfl ?_
  refine ab_goto (tgt := 34) d_M_hasCables_30 (by decide) ?_
  exact h
theorem q_M_hasCables_34 {w : ab_Wd} {d n nc ns : Nat} {I : Nat → Nat → Int32} {L : Nat → Nat → Int64} {res : ab_Re} (v1 : Int32) (v2 : Int32) (v3 : Int32) (s0 : Int32) (hc : nc ≤ res.2.2.2.2.2.1) (hs : ns ≤ res.2.2.2.2.2.2)
    (h : ab_E w (d + 1) mt_M_hasCables 4 [.ref mx, .int v1, .int s0, .int (v3 + 1)] [] (I, L, ab_RR, n, nc, ns) res) : ab_E w (d + 1) mt_M_hasCables 34 [.ref mx, .int v1, .int v2, .int v3] [.int s0] (I, L, ab_RR, n, nc, ns) res := by
  refine ab_istore_n (i := 2) d_M_hasCables_34 rfl (by decide) (Or.inr rfl) ?_
  refine ab_iinc (i := 3) (v := (v3 + 1)) d_M_hasCables_35 rfl rfl (by decide) (Or.inr rfl) ?_
  refine ab_goto (tgt := 4) d_M_hasCables_38 (by decide) ?_
  exact h
