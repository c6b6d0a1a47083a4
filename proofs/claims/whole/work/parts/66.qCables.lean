theorem d_Cables_copy_0 : decode (ab_bc mt_Cables_copy) 0 = .ok (.aload_n 0, 1) := by decide +kernel
theorem d_Cables_copy_1 : decode (ab_bc mt_Cables_copy) 1 = .ok (.aload_n 1, 1) := by decide +kernel
theorem d_Cables_copy_2 : decode (ab_bc mt_Cables_copy) 2 = .ok (.getfield 9, 3) := by decide +kernel
theorem d_Cables_copy_5 : decode (ab_bc mt_Cables_copy) 5 = .ok (.putfield 9, 3) := by decide +kernel
theorem d_Cables_copy_8 : decode (ab_bc mt_Cables_copy) 8 = .ok (.aload_n 0, 1) := by decide +kernel
theorem d_Cables_copy_9 : decode (ab_bc mt_Cables_copy) 9 = .ok (.aload_n 1, 1) := by decide +kernel
theorem d_Cables_copy_10 : decode (ab_bc mt_Cables_copy) 10 = .ok (.getfield 15, 3) := by decide +kernel
theorem d_Cables_copy_13 : decode (ab_bc mt_Cables_copy) 13 = .ok (.putfield 15, 3) := by decide +kernel
theorem d_Cables_copy_16 : decode (ab_bc mt_Cables_copy) 16 = .ok (.aload_n 0, 1) := by decide +kernel
theorem d_Cables_copy_17 : decode (ab_bc mt_Cables_copy) 17 = .ok (.aload_n 1, 1) := by decide +kernel
theorem d_Cables_copy_18 : decode (ab_bc mt_Cables_copy) 18 = .ok (.getfield 18, 3) := by decide +kernel
theorem d_Cables_copy_21 : decode (ab_bc mt_Cables_copy) 21 = .ok (.putfield 18, 3) := by decide +kernel
theorem d_Cables_copy_24 : decode (ab_bc mt_Cables_copy) 24 = .ok (.aload_n 1, 1) := by decide +kernel
theorem d_Cables_copy_25 : decode (ab_bc mt_Cables_copy) 25 = .ok (.getfield 21, 3) := by decide +kernel
theorem d_Cables_copy_28 : decode (ab_bc mt_Cables_copy) 28 = .ok (.iconst 0, 1) := by decide +kernel
theorem d_Cables_copy_29 : decode (ab_bc mt_Cables_copy) 29 = .ok (.aload_n 0, 1) := by decide +kernel
theorem d_Cables_copy_30 : decode (ab_bc mt_Cables_copy) 30 = .ok (.getfield 21, 3) := by decide +kernel
theorem d_Cables_copy_33 : decode (ab_bc mt_Cables_copy) 33 = .ok (.iconst 0, 1) := by decide +kernel
theorem d_Cables_copy_34 : decode (ab_bc mt_Cables_copy) 34 = .ok (.bipush 24, 2) := by decide +kernel
theorem d_Cables_copy_36 : decode (ab_bc mt_Cables_copy) 36 = .ok (.invokestatic 37, 3) := by decide +kernel
theorem d_Cables_copy_39 : decode (ab_bc mt_Cables_copy) 39 = .ok (.aload_n 1, 1) := by decide +kernel
theorem d_Cables_copy_40 : decode (ab_bc mt_Cables_copy) 40 = .ok (.getfield 25, 3) := by decide +kernel
theorem d_Cables_copy_43 : decode (ab_bc mt_Cables_copy) 43 = .ok (.iconst 0, 1) := by decide +kernel
theorem d_Cables_copy_44 : decode (ab_bc mt_Cables_copy) 44 = .ok (.aload_n 0, 1) := by decide +kernel
theorem d_Cables_copy_45 : decode (ab_bc mt_Cables_copy) 45 = .ok (.getfield 25, 3) := by decide +kernel
theorem d_Cables_copy_48 : decode (ab_bc mt_Cables_copy) 48 = .ok (.iconst 0, 1) := by decide +kernel
theorem d_Cables_copy_49 : decode (ab_bc mt_Cables_copy) 49 = .ok (.bipush 24, 2) := by decide +kernel
theorem d_Cables_copy_51 : decode (ab_bc mt_Cables_copy) 51 = .ok (.invokestatic 37, 3) := by decide +kernel
theorem d_Cables_copy_54 : decode (ab_bc mt_Cables_copy) 54 = .ok (.aload_n 1, 1) := by decide +kernel
theorem d_Cables_copy_55 : decode (ab_bc mt_Cables_copy) 55 = .ok (.getfield 28, 3) := by decide +kernel
theorem d_Cables_copy_58 : decode (ab_bc mt_Cables_copy) 58 = .ok (.iconst 0, 1) := by decide +kernel
theorem d_Cables_copy_59 : decode (ab_bc mt_Cables_copy) 59 = .ok (.aload_n 0, 1) := by decide +kernel
theorem d_Cables_copy_60 : decode (ab_bc mt_Cables_copy) 60 = .ok (.getfield 28, 3) := by decide +kernel
theorem d_Cables_copy_63 : decode (ab_bc mt_Cables_copy) 63 = .ok (.iconst 0, 1) := by decide +kernel
theorem d_Cables_copy_64 : decode (ab_bc mt_Cables_copy) 64 = .ok (.bipush 24, 2) := by decide +kernel
theorem d_Cables_copy_66 : decode (ab_bc mt_Cables_copy) 66 = .ok (.invokestatic 37, 3) := by decide +kernel
theorem d_Cables_copy_69 : decode (ab_bc mt_Cables_copy) 69 = .ok (.aload_n 1, 1) := by decide +kernel
theorem d_Cables_copy_70 : decode (ab_bc mt_Cables_copy) 70 = .ok (.getfield 31, 3) := by decide +kernel
theorem d_Cables_copy_73 : decode (ab_bc mt_Cables_copy) 73 = .ok (.iconst 0, 1) := by decide +kernel
theorem d_Cables_copy_74 : decode (ab_bc mt_Cables_copy) 74 = .ok (.aload_n 0, 1) := by decide +kernel
theorem d_Cables_copy_75 : decode (ab_bc mt_Cables_copy) 75 = .ok (.getfield 31, 3) := by decide +kernel
theorem d_Cables_copy_78 : decode (ab_bc mt_Cables_copy) 78 = .ok (.iconst 0, 1) := by decide +kernel
theorem d_Cables_copy_79 : decode (ab_bc mt_Cables_copy) 79 = .ok (.bipush 24, 2) := by decide +kernel
theorem d_Cables_copy_81 : decode (ab_bc mt_Cables_copy) 81 = .ok (.invokestatic 37, 3) := by decide +kernel
theorem d_Cables_copy_84 : decode (ab_bc mt_Cables_copy) 84 = .ok (.aload_n 1, 1) := by decide +kernel
theorem d_Cables_copy_85 : decode (ab_bc mt_Cables_copy) 85 = .ok (.getfield 34, 3) := by decide +kernel
theorem d_Cables_copy_88 : decode (ab_bc mt_Cables_copy) 88 = .ok (.iconst 0, 1) := by decide +kernel
theorem d_Cables_copy_89 : decode (ab_bc mt_Cables_copy) 89 = .ok (.aload_n 0, 1) := by decide +kernel
theorem d_Cables_copy_90 : decode (ab_bc mt_Cables_copy) 90 = .ok (.getfield 34, 3) := by decide +kernel
theorem d_Cables_copy_93 : decode (ab_bc mt_Cables_copy) 93 = .ok (.iconst 0, 1) := by decide +kernel
theorem d_Cables_copy_94 : decode (ab_bc mt_Cables_copy) 94 = .ok (.bipush 24, 2) := by decide +kernel
theorem d_Cables_copy_96 : decode (ab_bc mt_Cables_copy) 96 = .ok (.invokestatic 37, 3) := by decide +kernel
theorem d_Cables_copy_99 : decode (ab_bc mt_Cables_copy) 99 = .ok (.return_, 1) := by decide +kernel
-- CableKeeper$Cables.copy(LCableKeeper$Cables;)V over kx_trial, kx_now_cables
theorem q_Cables_copy_0_0 {w : ab_Wd} {d n nc ns : Nat} {I : Nat → Nat → Int32} {L : Nat → Nat → Int64} {res : ab_Re}  (hc : nc ≤ res.2.2.2.2.2.1) (hs : ns ≤ res.2.2.2.2.2.2)
    (h : res = (.inl none, ((ab_row (ab_row (ab_row (ab_row (ab_row (ab_up (ab_up (ab_up I kx_trial 0 (I kx_now_cables 0)) kx_trial 1 (I kx_now_cables 1)) kx_trial 2 (I kx_now_cables 2)) kx_trial_first (va_cpy (I kx_now_cables_first) (I kx_trial_first) 0 0 24)) kx_trial_second (va_cpy (I kx_now_cables_second) (I kx_trial_second) 0 0 24)) kx_trial_price (va_cpy (I kx_now_cables_price) (I kx_trial_price) 0 0 24)) kx_trial_firm (va_cpy (I kx_now_cables_firm) (I kx_trial_firm) 0 0 24)) kx_trial_order (va_cpy (I kx_now_cables_order) (I kx_trial_order) 0 0 24)), L, ab_RR, n, nc, ns))) : ab_E w (d + 1) mt_Cables_copy 0 [.ref kx_trial, .ref kx_now_cables] [] (I, L, ab_RR, n, nc, ns) res := by
  refine ab_aload_n (i := 0) d_Cables_copy_0 rfl rfl ?_
  refine ab_aload_n (i := 1) d_Cables_copy_1 rfl rfl ?_
  refine ab_getI (ci := 1) (k := 0) d_Cables_copy_2 v_185 rfl (by decide) (by decide) rfl ?_
  refine ab_putI (ci := 1) (k := 0) d_Cables_copy_5 v_185 rfl (by decide) (by decide) rfl (Or.inl rfl) rfl rfl ?_
  refine ab_aload_n (i := 0) d_Cables_copy_8 rfl rfl ?_
  refine ab_aload_n (i := 1) d_Cables_copy_9 rfl rfl ?_
  refine ab_getI (ci := 1) (k := 1) d_Cables_copy_10 v_192 rfl (by decide) (by decide) rfl ?_
  refine ab_putI (ci := 1) (k := 1) d_Cables_copy_13 v_192 rfl (by decide) (by decide) rfl (Or.inl rfl) rfl rfl ?_
  refine ab_aload_n (i := 0) d_Cables_copy_16 rfl rfl ?_
  refine ab_aload_n (i := 1) d_Cables_copy_17 rfl rfl ?_
  refine ab_getI (ci := 1) (k := 2) d_Cables_copy_18 v_200 rfl (by decide) (by decide) rfl ?_
  refine ab_putI (ci := 1) (k := 2) d_Cables_copy_21 v_200 rfl (by decide) (by decide) rfl (Or.inl rfl) rfl rfl ?_
  refine ab_aload_n (i := 1) d_Cables_copy_24 rfl rfl ?_
  refine ab_getR (ci := 1) (k := 3) (j := kx_now_cables_first) d_Cables_copy_25 v_204 rfl (by decide) (by decide) rfl r_kx_now_cables_3 ?_
  refine ab_iconst (v := 0) d_Cables_copy_28 rfl ?_
  refine ab_aload_n (i := 0) d_Cables_copy_29 rfl rfl ?_
  refine ab_getR (ci := 1) (k := 3) (j := kx_trial_first) d_Cables_copy_30 v_204 rfl (by decide) (by decide) rfl r_kx_trial_3 ?_
  refine ab_iconst (v := 0) d_Cables_copy_33 rfl ?_
  refine ab_bipush (v := 24) d_Cables_copy_34 rfl ?_
  refine ab_copy d_Cables_copy_36 v_675 v_562 v_561 v_161 rfl rfl rfl rfl (by decide) (by decide) (by decide) (by decide) (by decide) (Nat.succ_le_succ (Nat.zero_le _)) (Nat.le_of_ble_eq_true rfl) ?_
  refine ab_aload_n (i := 1) d_Cables_copy_39 rfl rfl ?_
  refine ab_getR (ci := 1) (k := 4) (j := kx_now_cables_second) d_Cables_copy_40 v_211 rfl (by decide) (by decide) rfl r_kx_now_cables_4 ?_
  refine ab_iconst (v := 0) d_Cables_copy_43 rfl ?_
  refine ab_aload_n (i := 0) d_Cables_copy_44 rfl rfl ?_
  refine ab_getR (ci := 1) (k := 4) (j := kx_trial_second) d_Cables_copy_45 v_211 rfl (by decide) (by decide) rfl r_kx_trial_4 ?_
  refine ab_iconst (v := 0) d_Cables_copy_48 rfl ?_
  refine ab_bipush (v := 24) d_Cables_copy_49 rfl ?_
  refine ab_copy d_Cables_copy_51 v_675 v_562 v_561 v_161 rfl rfl rfl rfl (by decide) (by decide) (by decide) (by decide) (by decide) (Nat.succ_le_succ (Nat.zero_le _)) (Nat.le_of_ble_eq_true rfl) ?_
  refine ab_aload_n (i := 1) d_Cables_copy_54 rfl rfl ?_
  refine ab_getR (ci := 1) (k := 5) (j := kx_now_cables_price) d_Cables_copy_55 v_218 rfl (by decide) (by decide) rfl r_kx_now_cables_5 ?_
  refine ab_iconst (v := 0) d_Cables_copy_58 rfl ?_
  refine ab_aload_n (i := 0) d_Cables_copy_59 rfl rfl ?_
  refine ab_getR (ci := 1) (k := 5) (j := kx_trial_price) d_Cables_copy_60 v_218 rfl (by decide) (by decide) rfl r_kx_trial_5 ?_
  refine ab_iconst (v := 0) d_Cables_copy_63 rfl ?_
  refine ab_bipush (v := 24) d_Cables_copy_64 rfl ?_
  refine ab_copy d_Cables_copy_66 v_675 v_562 v_561 v_161 rfl rfl rfl rfl (by decide) (by decide) (by decide) (by decide) (by decide) (Nat.succ_le_succ (Nat.zero_le _)) (Nat.le_of_ble_eq_true rfl) ?_
  refine ab_aload_n (i := 1) d_Cables_copy_69 rfl rfl ?_
  refine ab_getR (ci := 1) (k := 6) (j := kx_now_cables_firm) d_Cables_copy_70 v_226 rfl (by decide) (by decide) rfl r_kx_now_cables_6 ?_
  refine ab_iconst (v := 0) d_Cables_copy_73 rfl ?_
  refine ab_aload_n (i := 0) d_Cables_copy_74 rfl rfl ?_
  refine ab_getR (ci := 1) (k := 6) (j := kx_trial_firm) d_Cables_copy_75 v_226 rfl (by decide) (by decide) rfl r_kx_trial_6 ?_
  refine ab_iconst (v := 0) d_Cables_copy_78 rfl ?_
  refine ab_bipush (v := 24) d_Cables_copy_79 rfl ?_
  refine ab_copy d_Cables_copy_81 v_675 v_562 v_561 v_161 rfl rfl rfl rfl (by decide) (by decide) (by decide) (by decide) (by decide) (Nat.succ_le_succ (Nat.zero_le _)) (Nat.le_of_ble_eq_true rfl) ?_
  refine ab_aload_n (i := 1) d_Cables_copy_84 rfl rfl ?_
  refine ab_getR (ci := 1) (k := 7) (j := kx_now_cables_order) d_Cables_copy_85 v_229 rfl (by decide) (by decide) rfl r_kx_now_cables_7 ?_
  refine ab_iconst (v := 0) d_Cables_copy_88 rfl ?_
  refine ab_aload_n (i := 0) d_Cables_copy_89 rfl rfl ?_
  refine ab_getR (ci := 1) (k := 7) (j := kx_trial_order) d_Cables_copy_90 v_229 rfl (by decide) (by decide) rfl r_kx_trial_7 ?_
  refine ab_iconst (v := 0) d_Cables_copy_93 rfl ?_
  refine ab_bipush (v := 24) d_Cables_copy_94 rfl ?_
  refine ab_copy d_Cables_copy_96 v_675 v_562 v_561 v_161 rfl rfl rfl rfl (by decide) (by decide) (by decide) (by decide) (by decide) (Nat.succ_le_succ (Nat.zero_le _)) (Nat.le_of_ble_eq_true rfl) ?_
  exact ab_vret d_Cables_copy_99 rfl h
theorem d_Cables_crosses_0 : decode (ab_bc mt_Cables_crosses) 0 = .ok (.iload_n 2, 1) := by decide +kernel
theorem d_Cables_crosses_1 : decode (ab_bc mt_Cables_crosses) 1 = .ok (.aload_n 0, 1) := by decide +kernel
theorem d_Cables_crosses_2 : decode (ab_bc mt_Cables_crosses) 2 = .ok (.getfield 21, 3) := by decide +kernel
theorem d_Cables_crosses_5 : decode (ab_bc mt_Cables_crosses) 5 = .ok (.iload_n 1, 1) := by decide +kernel
theorem d_Cables_crosses_6 : decode (ab_bc mt_Cables_crosses) 6 = .ok (.iaload, 1) := by decide +kernel
theorem d_Cables_crosses_7 : decode (ab_bc mt_Cables_crosses) 7 = .ok (.ishr, 1) := by decide +kernel
theorem d_Cables_crosses_8 : decode (ab_bc mt_Cables_crosses) 8 = .ok (.iconst 1, 1) := by decide +kernel
theorem d_Cables_crosses_9 : decode (ab_bc mt_Cables_crosses) 9 = .ok (.iand, 1) := by decide +kernel
theorem d_Cables_crosses_10 : decode (ab_bc mt_Cables_crosses) 10 = .ok (.iload_n 2, 1) := by decide +kernel
theorem d_Cables_crosses_11 : decode (ab_bc mt_Cables_crosses) 11 = .ok (.aload_n 0, 1) := by decide +kernel
theorem d_Cables_crosses_12 : decode (ab_bc mt_Cables_crosses) 12 = .ok (.getfield 25, 3) := by decide +kernel
theorem d_Cables_crosses_15 : decode (ab_bc mt_Cables_crosses) 15 = .ok (.iload_n 1, 1) := by decide +kernel
theorem d_Cables_crosses_16 : decode (ab_bc mt_Cables_crosses) 16 = .ok (.iaload, 1) := by decide +kernel
theorem d_Cables_crosses_17 : decode (ab_bc mt_Cables_crosses) 17 = .ok (.ishr, 1) := by decide +kernel
theorem d_Cables_crosses_18 : decode (ab_bc mt_Cables_crosses) 18 = .ok (.iconst 1, 1) := by decide +kernel
theorem d_Cables_crosses_19 : decode (ab_bc mt_Cables_crosses) 19 = .ok (.iand, 1) := by decide +kernel
theorem d_Cables_crosses_20 : decode (ab_bc mt_Cables_crosses) 20 = .ok (.if_icmp .eq 7, 3) := by decide +kernel
theorem d_Cables_crosses_23 : decode (ab_bc mt_Cables_crosses) 23 = .ok (.iconst 1, 1) := by decide +kernel
theorem d_Cables_crosses_24 : decode (ab_bc mt_Cables_crosses) 24 = .ok (.goto 4, 3) := by decide +kernel
theorem d_Cables_crosses_27 : decode (ab_bc mt_Cables_crosses) 27 = .ok (.iconst 0, 1) := by decide +kernel
theorem d_Cables_crosses_28 : decode (ab_bc mt_Cables_crosses) 28 = .ok (.ireturn, 1) := by decide +kernel
-- CableKeeper$Cables.crosses(II)Z over kx_now_cables
theorem q_Cables_crosses_0 {w : ab_Wd} {d n nc ns : Nat} {I : Nat → Nat → Int32} {L : Nat → Nat → Int64} {res : ab_Re} (v1 : Int32) (v2 : Int32) (hc : nc ≤ res.2.2.2.2.2.1) (hs : ns ≤ res.2.2.2.2.2.2)
    (h : (vp_in v1 24) ∧ ((((v2 >>> ((I kx_now_cables_first v1.toNatClampNeg) &&& 31)) &&& 1) = ((v2 >>> ((I kx_now_cables_second v1.toNatClampNeg) &&& 31)) &&& 1) → (ab_E w d mt_Cables_crosses 28 [.ref kx_now_cables, .int v1, .int v2] [.int 0] (I, L, ab_RR, n, nc, ns) res)) ∧ (¬ ((v2 >>> ((I kx_now_cables_first v1.toNatClampNeg) &&& 31)) &&& 1) = ((v2 >>> ((I kx_now_cables_second v1.toNatClampNeg) &&& 31)) &&& 1) → (ab_E w d mt_Cables_crosses 28 [.ref kx_now_cables, .int v1, .int v2] [.int 1] (I, L, ab_RR, n, nc, ns) res)))) : ab_E w d mt_Cables_crosses 0 [.ref kx_now_cables, .int v1, .int v2] [] (I, L, ab_RR, n, nc, ns) res := by
  refine ab_iload_n (i := 2) d_Cables_crosses_0 rfl rfl ?_
  refine ab_aload_n (i := 0) d_Cables_crosses_1 rfl rfl ?_
  refine ab_getR (ci := 1) (k := 3) (j := kx_now_cables_first) d_Cables_crosses_2 v_204 rfl (by decide) (by decide) rfl r_kx_now_cables_3 ?_
  refine ab_iload_n (i := 1) d_Cables_crosses_5 rfl rfl ?_
  have g1 := h.1; have h := h.2
  refine ab_iald d_Cables_crosses_6 rfl rfl g1 ?_
  refine ab_ishr d_Cables_crosses_7 ?_
  refine ab_iconst (v := 1) d_Cables_crosses_8 rfl ?_
  refine ab_iand d_Cables_crosses_9 ?_
  refine ab_iload_n (i := 2) d_Cables_crosses_10 rfl rfl ?_
  refine ab_aload_n (i := 0) d_Cables_crosses_11 rfl rfl ?_
  refine ab_getR (ci := 1) (k := 4) (j := kx_now_cables_second) d_Cables_crosses_12 v_211 rfl (by decide) (by decide) rfl r_kx_now_cables_4 ?_
  refine ab_iload_n (i := 1) d_Cables_crosses_15 rfl rfl ?_
  refine ab_iald d_Cables_crosses_16 rfl rfl g1 ?_
  refine ab_ishr d_Cables_crosses_17 ?_
  refine ab_iconst (v := 1) d_Cables_crosses_18 rfl ?_
  refine ab_iand d_Cables_crosses_19 ?_
  refine ab_icmp_eq (tgt := 27) d_Cables_crosses_20 (by decide) (fun c2 => ?_) (fun c2 => ?_)
  · have h := h.1 c2
    refine ab_iconst (v := 0) d_Cables_crosses_27 rfl ?_
    exact h
  · have h := h.2 c2
    refine ab_iconst (v := 1) d_Cables_crosses_23 rfl ?_
    refine ab_goto (tgt := 28) d_Cables_crosses_24 (by decide) ?_
    exact h
theorem q_Cables_crosses_28 {w : ab_Wd} {d n nc ns : Nat} {I : Nat → Nat → Int32} {L : Nat → Nat → Int64} {res : ab_Re} (v1 : Int32) (v2 : Int32) (s0 : Int32) (hc : nc ≤ res.2.2.2.2.2.1) (hs : ns ≤ res.2.2.2.2.2.2)
    (h : (narrow .boolean (.int s0) = .int s0) ∧ res = (.inl (some (.int s0)), (I, L, ab_RR, n, nc, ns))) : ab_E w d mt_Cables_crosses 28 [.ref kx_now_cables, .int v1, .int v2] [.int s0] (I, L, ab_RR, n, nc, ns) res := by
  have g := h.1; have h := h.2
  exact ab_iret (ty := .boolean) d_Cables_crosses_28 rfl g h
-- CableKeeper$Cables.sort()V over kx_trial
theorem q_Cables_sort_1_0 {w : ab_Wd} {d n nc ns : Nat} {I : Nat → Nat → Int32} {L : Nat → Nat → Int64} {res : ab_Re}  (hc : nc ≤ res.2.2.2.2.2.1) (hs : ns ≤ res.2.2.2.2.2.2)
    (h : ab_E w d mt_Cables_sort 2 [.ref kx_trial, .int 0, .null] [] (I, L, ab_RR, n, nc, ns) res) : ab_E w d mt_Cables_sort 0 [.ref kx_trial, .null, .null] [] (I, L, ab_RR, n, nc, ns) res := by
  refine ab_iconst (v := 0) d_Cables_sort_0 rfl ?_
  refine ab_istore_n (i := 1) d_Cables_sort_1 rfl (by decide) (Or.inr rfl) ?_
  exact h
theorem q_Cables_sort_1_2 {w : ab_Wd} {d n nc ns : Nat} {I : Nat → Nat → Int32} {L : Nat → Nat → Int64} {res : ab_Re} (v1 : Int32) (hc : nc ≤ res.2.2.2.2.2.1) (hs : ns ≤ res.2.2.2.2.2.2)
    (h : (((I kx_trial 1) ≤ v1 → (res = (.inl none, (I, L, ab_RR, n, nc, ns)))) ∧ (¬ (I kx_trial 1) ≤ v1 → (ab_E w d mt_Cables_sort 12 [.ref kx_trial, .int v1, .int v1] [] (I, L, ab_RR, n, nc, ns) res)))) : ab_E w d mt_Cables_sort 2 [.ref kx_trial, .int v1, .null] [] (I, L, ab_RR, n, nc, ns) res := by
  refine ab_iload_n (i := 1) d_Cables_sort_2 rfl rfl ?_
  refine ab_aload_n (i := 0) d_Cables_sort_3 rfl rfl ?_
  refine ab_getI (ci := 1) (k := 1) d_Cables_sort_4 v_192 rfl (by decide) (by decide) rfl ?_
  refine ab_icmp_ge (tgt := 71) d_Cables_sort_7 (by decide) (fun c1 => ?_) (fun c1 => ?_)
  · have h := h.1 c1
    exact ab_vret d_Cables_sort_71 rfl h
  · have h := h.2 c1
    refine ab_iload_n (i := 1) d_Cables_sort_10 rfl rfl ?_
    refine ab_istore_n (i := 2) d_Cables_sort_11 rfl (by decide) (Or.inr rfl) ?_
    exact h
theorem q_Cables_sort_1_12 {w : ab_Wd} {d n nc ns : Nat} {I : Nat → Nat → Int32} {L : Nat → Nat → Int64} {res : ab_Re} (v1 : Int32) (v2 : Int32) (hc : nc ≤ res.2.2.2.2.2.1) (hs : ns ≤ res.2.2.2.2.2.2)
    (h : ((v2 ≤ 0 → (ab_E w d mt_Cables_sort 58 [.ref kx_trial, .int v1, .int v2] [] (I, L, ab_RR, n, nc, ns) res)) ∧ (¬ v2 ≤ 0 → ((vp_in (v2 - 1) 24) ∧ (vp_in (I kx_trial_order (v2 - 1).toNatClampNeg) 24) ∧ (vp_in v1 24) ∧ (((I kx_trial_price (I kx_trial_order (v2 - 1).toNatClampNeg).toNatClampNeg) ≤ (I kx_trial_price v1.toNatClampNeg) → (ab_E w d mt_Cables_sort 58 [.ref kx_trial, .int v1, .int v2] [] (I, L, ab_RR, n, nc, ns) res)) ∧ (¬ (I kx_trial_price (I kx_trial_order (v2 - 1).toNatClampNeg).toNatClampNeg) ≤ (I kx_trial_price v1.toNatClampNeg) → ((vp_in v2 24) ∧ ab_E w d mt_Cables_sort 12 [.ref kx_trial, .int v1, .int (v2 + (-1))] [] ((ab_up I kx_trial_order v2.toNatClampNeg (I kx_trial_order (v2 - 1).toNatClampNeg)), L, ab_RR, n, nc, ns) res))))))) : ab_E w d mt_Cables_sort 12 [.ref kx_trial, .int v1, .int v2] [] (I, L, ab_RR, n, nc, ns) res := by
  refine ab_iload_n (i := 2) d_Cables_sort_12 rfl rfl ?_
  refine ab_if_le (tgt := 58) d_Cables_sort_13 (by decide) (fun c1 => ?_) (fun c1 => ?_)
  · have h := h.1 c1
    exact h
  · have h := h.2 c1
    refine ab_aload_n (i := 0) d_Cables_sort_16 rfl rfl ?_
    refine ab_getR (ci := 1) (k := 5) (j := kx_trial_price) d_Cables_sort_17 v_218 rfl (by decide) (by decide) rfl r_kx_trial_5 ?_
    refine ab_aload_n (i := 0) d_Cables_sort_20 rfl rfl ?_
    refine ab_getR (ci := 1) (k := 7) (j := kx_trial_order) d_Cables_sort_21 v_229 rfl (by decide) (by decide) rfl r_kx_trial_7 ?_
    refine ab_iload_n (i := 2) d_Cables_sort_24 rfl rfl ?_
    refine ab_iconst (v := 1) d_Cables_sort_25 rfl ?_
    refine ab_isub d_Cables_sort_26 ?_
    have g2 := h.1; have h := h.2
    refine ab_iald d_Cables_sort_27 rfl rfl g2 ?_
    have g3 := h.1; have h := h.2
    refine ab_iald d_Cables_sort_28 rfl rfl g3 ?_
    refine ab_aload_n (i := 0) d_Cables_sort_29 rfl rfl ?_
    refine ab_getR (ci := 1) (k := 5) (j := kx_trial_price) d_Cables_sort_30 v_218 rfl (by decide) (by decide) rfl r_kx_trial_5 ?_
    refine ab_iload_n (i := 1) d_Cables_sort_33 rfl rfl ?_
    have g4 := h.1; have h := h.2
    refine ab_iald d_Cables_sort_34 rfl rfl g4 ?_
    refine ab_icmp_le (tgt := 58) d_Cables_sort_35 (by decide) (fun c5 => ?_) (fun c5 => ?_)
    · have h := h.1 c5
      exact h
    · have h := h.2 c5
      refine ab_aload_n (i := 0) d_Cables_sort_38 rfl rfl ?_
      refine ab_getR (ci := 1) (k := 7) (j := kx_trial_order) d_Cables_sort_39 v_229 rfl (by decide) (by decide) rfl r_kx_trial_7 ?_
      refine ab_iload_n (i := 2) d_Cables_sort_42 rfl rfl ?_
      refine ab_aload_n (i := 0) d_Cables_sort_43 rfl rfl ?_
      refine ab_getR (ci := 1) (k := 7) (j := kx_trial_order) d_Cables_sort_44 v_229 rfl (by decide) (by decide) rfl r_kx_trial_7 ?_
      refine ab_iload_n (i := 2) d_Cables_sort_47 rfl rfl ?_
      refine ab_iconst (v := 1) d_Cables_sort_48 rfl ?_
      refine ab_isub d_Cables_sort_49 ?_
      refine ab_iald d_Cables_sort_50 rfl rfl g2 ?_
      have g6 := h.1; have h := h.2
      refine ab_iast d_Cables_sort_51 rfl rfl g6 ?_
      refine ab_iinc (i := 2) (v := (v2 + (-1))) d_Cables_sort_52 rfl rfl (by decide) (Or.inr rfl) ?_
      refine ab_goto (tgt := 12) d_Cables_sort_55 (by decide) ?_
      exact h
theorem q_Cables_sort_1_58 {w : ab_Wd} {d n nc ns : Nat} {I : Nat → Nat → Int32} {L : Nat → Nat → Int64} {res : ab_Re} (v1 : Int32) (v2 : Int32) (hc : nc ≤ res.2.2.2.2.2.1) (hs : ns ≤ res.2.2.2.2.2.2)
    (h : (vp_in v2 24) ∧ ab_E w d mt_Cables_sort 2 [.ref kx_trial, .int (v1 + 1), .null] [] ((ab_up I kx_trial_order v2.toNatClampNeg v1), L, ab_RR, n, nc, ns) res) : ab_E w d mt_Cables_sort 58 [.ref kx_trial, .int v1, .int v2] [] (I, L, ab_RR, n, nc, ns) res := by
  refine ab_aload_n (i := 0) d_Cables_sort_58 rfl rfl ?_
  refine ab_getR (ci := 1) (k := 7) (j := kx_trial_order) d_Cables_sort_59 v_229 rfl (by decide) (by decide) rfl r_kx_trial_7 ?_
  refine ab_iload_n (i := 2) d_Cables_sort_62 rfl rfl ?_
  refine ab_iload_n (i := 1) d_Cables_sort_63 rfl rfl ?_
  have g1 := h.1; have h := h.2
  refine ab_iast d_Cables_sort_64 rfl rfl g1 ?_
  refine ab_iinc (i := 1) (v := (v1 + 1)) d_Cables_sort_65 rfl rfl (by decide) (Or.inr rfl) ?_
  refine ab_goto (tgt := 2) d_Cables_sort_68 (by decide) ?_
  refine ab_drop 2 ?_
  exact h
theorem d_Cables_cheapestOf_0 : decode (ab_bc mt_Cables_cheapestOf) 0 = .ok (.iconst 0, 1) := by decide +kernel
theorem d_Cables_cheapestOf_1 : decode (ab_bc mt_Cables_cheapestOf) 1 = .ok (.istore_n 2, 1) := by decide +kernel
theorem d_Cables_cheapestOf_2 : decode (ab_bc mt_Cables_cheapestOf) 2 = .ok (.iload_n 2, 1) := by decide +kernel
theorem d_Cables_cheapestOf_3 : decode (ab_bc mt_Cables_cheapestOf) 3 = .ok (.aload_n 0, 1) := by decide +kernel
theorem d_Cables_cheapestOf_4 : decode (ab_bc mt_Cables_cheapestOf) 4 = .ok (.getfield 15, 3) := by decide +kernel
theorem d_Cables_cheapestOf_7 : decode (ab_bc mt_Cables_cheapestOf) 7 = .ok (.if_icmp .ge 30, 3) := by decide +kernel
theorem d_Cables_cheapestOf_10 : decode (ab_bc mt_Cables_cheapestOf) 10 = .ok (.iload_n 1, 1) := by decide +kernel
theorem d_Cables_cheapestOf_11 : decode (ab_bc mt_Cables_cheapestOf) 11 = .ok (.aload_n 0, 1) := by decide +kernel
theorem d_Cables_cheapestOf_12 : decode (ab_bc mt_Cables_cheapestOf) 12 = .ok (.getfield 34, 3) := by decide +kernel
theorem d_Cables_cheapestOf_15 : decode (ab_bc mt_Cables_cheapestOf) 15 = .ok (.iload_n 2, 1) := by decide +kernel
theorem d_Cables_cheapestOf_16 : decode (ab_bc mt_Cables_cheapestOf) 16 = .ok (.iaload, 1) := by decide +kernel
theorem d_Cables_cheapestOf_17 : decode (ab_bc mt_Cables_cheapestOf) 17 = .ok (.ishr, 1) := by decide +kernel
theorem d_Cables_cheapestOf_18 : decode (ab_bc mt_Cables_cheapestOf) 18 = .ok (.iconst 1, 1) := by decide +kernel
theorem d_Cables_cheapestOf_19 : decode (ab_bc mt_Cables_cheapestOf) 19 = .ok (.iand, 1) := by decide +kernel
theorem d_Cables_cheapestOf_20 : decode (ab_bc mt_Cables_cheapestOf) 20 = .ok (.iconst 1, 1) := by decide +kernel
theorem d_Cables_cheapestOf_21 : decode (ab_bc mt_Cables_cheapestOf) 21 = .ok (.if_icmp .ne 10, 3) := by decide +kernel
theorem d_Cables_cheapestOf_24 : decode (ab_bc mt_Cables_cheapestOf) 24 = .ok (.aload_n 0, 1) := by decide +kernel
theorem d_Cables_cheapestOf_25 : decode (ab_bc mt_Cables_cheapestOf) 25 = .ok (.getfield 34, 3) := by decide +kernel
theorem d_Cables_cheapestOf_28 : decode (ab_bc mt_Cables_cheapestOf) 28 = .ok (.iload_n 2, 1) := by decide +kernel
theorem d_Cables_cheapestOf_29 : decode (ab_bc mt_Cables_cheapestOf) 29 = .ok (.iaload, 1) := by decide +kernel
theorem d_Cables_cheapestOf_30 : decode (ab_bc mt_Cables_cheapestOf) 30 = .ok (.ireturn, 1) := by decide +kernel
theorem d_Cables_cheapestOf_31 : decode (ab_bc mt_Cables_cheapestOf) 31 = .ok (.iinc 2 1, 3) := by decide +kernel
theorem d_Cables_cheapestOf_34 : decode (ab_bc mt_Cables_cheapestOf) 34 = .ok (.goto (-32), 3) := by decide +kernel
theorem d_Cables_cheapestOf_37 : decode (ab_bc mt_Cables_cheapestOf) 37 = .ok (.iconst (-1), 1) := by decide +kernel
theorem d_Cables_cheapestOf_38 : decode (ab_bc mt_Cables_cheapestOf) 38 = .ok (.ireturn, 1) := by decide +kernel
-- CableKeeper$Cables.cheapestOf(I)I over kx_now_cables
theorem q_Cables_cheapestOf_0 {w : ab_Wd} {d n nc ns : Nat} {I : Nat → Nat → Int32} {L : Nat → Nat → Int64} {res : ab_Re} (v1 : Int32) (hc : nc ≤ res.2.2.2.2.2.1) (hs : ns ≤ res.2.2.2.2.2.2)
    (h : ab_E w d mt_Cables_cheapestOf 2 [.ref kx_now_cables, .int v1, .int 0] [] (I, L, ab_RR, n, nc, ns) res) : ab_E w d mt_Cables_cheapestOf 0 [.ref kx_now_cables, .int v1, .null] [] (I, L, ab_RR, n, nc, ns) res := by
  refine ab_iconst (v := 0) d_Cables_cheapestOf_0 rfl ?_
  refine ab_istore_n (i := 2) d_Cables_cheapestOf_1 rfl (by decide) (Or.inr rfl) ?_
  exact h
theorem q_Cables_cheapestOf_2 {w : ab_Wd} {d n nc ns : Nat} {I : Nat → Nat → Int32} {L : Nat → Nat → Int64} {res : ab_Re} (v1 : Int32) (v2 : Int32) (hc : nc ≤ res.2.2.2.2.2.1) (hs : ns ≤ res.2.2.2.2.2.2)
    (h : (((I kx_now_cables 1) ≤ v2 → (res = (.inl (some (.int (-1))), (I, L, ab_RR, n, nc, ns)))) ∧ (¬ (I kx_now_cables 1) ≤ v2 → ((vp_in v2 24) ∧ ((¬ ((v1 >>> ((I kx_now_cables_order v2.toNatClampNeg) &&& 31)) &&& 1) = 1 → (ab_E w d mt_Cables_cheapestOf 2 [.ref kx_now_cables, .int v1, .int (v2 + 1)] [] (I, L, ab_RR, n, nc, ns) res)) ∧ (((v1 >>> ((I kx_now_cables_order v2.toNatClampNeg) &&& 31)) &&& 1) = 1 → (res = (.inl (some (.int (I kx_now_cables_order v2.toNatClampNeg))), (I, L, ab_RR, n, nc, ns))))))))) : ab_E w d mt_Cables_cheapestOf 2 [.ref kx_now_cables, .int v1, .int v2] [] (I, L, ab_RR, n, nc, ns) res := by
  refine ab_iload_n (i := 2) d_Cables_cheapestOf_2 rfl rfl ?_
  refine ab_aload_n (i := 0) d_Cables_cheapestOf_3 rfl rfl ?_
  refine ab_getI (ci := 1) (k := 1) d_Cables_cheapestOf_4 v_192 rfl (by decide) (by decide) rfl ?_
  refine ab_icmp_ge (tgt := 37) d_Cables_cheapestOf_7 (by decide) (fun c1 => ?_) (fun c1 => ?_)
  · have h := h.1 c1
    refine ab_iconst (v := (-1)) d_Cables_cheapestOf_37 rfl ?_
    exact ab_iret (ty := .int) d_Cables_cheapestOf_38 rfl rfl h
  · have h := h.2 c1
    refine ab_iload_n (i := 1) d_Cables_cheapestOf_10 rfl rfl ?_
    refine ab_aload_n (i := 0) d_Cables_cheapestOf_11 rfl rfl ?_
    refine ab_getR (ci := 1) (k := 7) (j := kx_now_cables_order) d_Cables_cheapestOf_12 v_229 rfl (by decide) (by decide) rfl r_kx_now_cables_7 ?_
    refine ab_iload_n (i := 2) d_Cables_cheapestOf_15 rfl rfl ?_
    have g2 := h.1; have h := h.2
    refine ab_iald d_Cables_cheapestOf_16 rfl rfl g2 ?_
    refine ab_ishr d_Cables_cheapestOf_17 ?_
    refine ab_iconst (v := 1) d_Cables_cheapestOf_18 rfl ?_
    refine ab_iand d_Cables_cheapestOf_19 ?_
    refine ab_iconst (v := 1) d_Cables_cheapestOf_20 rfl ?_
    refine ab_icmp_ne (tgt := 31) d_Cables_cheapestOf_21 (by decide) (fun c3 => ?_) (fun c3 => ?_)
    · have h := h.1 c3
      refine ab_iinc (i := 2) (v := (v2 + 1)) d_Cables_cheapestOf_31 rfl rfl (by decide) (Or.inr rfl) ?_
      refine ab_goto (tgt := 2) d_Cables_cheapestOf_34 (by decide) ?_
      exact h
    · have h := h.2 c3
      refine ab_aload_n (i := 0) d_Cables_cheapestOf_24 rfl rfl ?_
      refine ab_getR (ci := 1) (k := 7) (j := kx_now_cables_order) d_Cables_cheapestOf_25 v_229 rfl (by decide) (by decide) rfl r_kx_now_cables_7 ?_
      refine ab_iload_n (i := 2) d_Cables_cheapestOf_28 rfl rfl ?_
      refine ab_iald d_Cables_cheapestOf_29 rfl rfl g2 ?_
      exact ab_iret (ty := .int) d_Cables_cheapestOf_30 rfl rfl h
theorem d_Cables_clear_0 : decode (ab_bc mt_Cables_clear) 0 = .ok (.aload_n 0, 1) := by decide +kernel
theorem d_Cables_clear_1 : decode (ab_bc mt_Cables_clear) 1 = .ok (.iconst 4, 1) := by decide +kernel
theorem d_Cables_clear_2 : decode (ab_bc mt_Cables_clear) 2 = .ok (.putfield 9, 3) := by decide +kernel
theorem d_Cables_clear_5 : decode (ab_bc mt_Cables_clear) 5 = .ok (.aload_n 0, 1) := by decide +kernel
theorem d_Cables_clear_6 : decode (ab_bc mt_Cables_clear) 6 = .ok (.iconst 0, 1) := by decide +kernel
theorem d_Cables_clear_7 : decode (ab_bc mt_Cables_clear) 7 = .ok (.putfield 15, 3) := by decide +kernel
theorem d_Cables_clear_10 : decode (ab_bc mt_Cables_clear) 10 = .ok (.aload_n 0, 1) := by decide +kernel
theorem d_Cables_clear_11 : decode (ab_bc mt_Cables_clear) 11 = .ok (.iconst 0, 1) := by decide +kernel
theorem d_Cables_clear_12 : decode (ab_bc mt_Cables_clear) 12 = .ok (.putfield 18, 3) := by decide +kernel
theorem d_Cables_clear_15 : decode (ab_bc mt_Cables_clear) 15 = .ok (.return_, 1) := by decide +kernel
-- CableKeeper$Cables.clear()V over kx_trial
theorem q_Cables_clear_0 {w : ab_Wd} {d n nc ns : Nat} {I : Nat → Nat → Int32} {L : Nat → Nat → Int64} {res : ab_Re}  (hc : nc ≤ res.2.2.2.2.2.1) (hs : ns ≤ res.2.2.2.2.2.2)
    (h : res = (.inl none, ((ab_up (ab_up (ab_up I kx_trial 0 4) kx_trial 1 0) kx_trial 2 0), L, ab_RR, n, nc, ns))) : ab_E w d mt_Cables_clear 0 [.ref kx_trial] [] (I, L, ab_RR, n, nc, ns) res := by
  refine ab_aload_n (i := 0) d_Cables_clear_0 rfl rfl ?_
  refine ab_iconst (v := 4) d_Cables_clear_1 rfl ?_
  refine ab_putI (ci := 1) (k := 0) d_Cables_clear_2 v_185 rfl (by decide) (by decide) rfl (Or.inl rfl) rfl rfl ?_
  refine ab_aload_n (i := 0) d_Cables_clear_5 rfl rfl ?_
  refine ab_iconst (v := 0) d_Cables_clear_6 rfl ?_
  refine ab_putI (ci := 1) (k := 1) d_Cables_clear_7 v_192 rfl (by decide) (by decide) rfl (Or.inl rfl) rfl rfl ?_
  refine ab_aload_n (i := 0) d_Cables_clear_10 rfl rfl ?_
  refine ab_iconst (v := 0) d_Cables_clear_11 rfl ?_
  refine ab_putI (ci := 1) (k := 2) d_Cables_clear_12 v_200 rfl (by decide) (by decide) rfl (Or.inl rfl) rfl rfl ?_
  exact ab_vret d_Cables_clear_15 rfl h
-- CableKeeper$Cables.copy(LCableKeeper$Cables;)V over kx_now_cables, kx_trial
theorem q_Cables_copy_1_0 {w : ab_Wd} {d n nc ns : Nat} {I : Nat → Nat → Int32} {L : Nat → Nat → Int64} {res : ab_Re}  (hc : nc ≤ res.2.2.2.2.2.1) (hs : ns ≤ res.2.2.2.2.2.2)
    (h : res = (.inl none, ((ab_row (ab_row (ab_row (ab_row (ab_row (ab_up (ab_up (ab_up I kx_now_cables 0 (I kx_trial 0)) kx_now_cables 1 (I kx_trial 1)) kx_now_cables 2 (I kx_trial 2)) kx_now_cables_first (va_cpy (I kx_trial_first) (I kx_now_cables_first) 0 0 24)) kx_now_cables_second (va_cpy (I kx_trial_second) (I kx_now_cables_second) 0 0 24)) kx_now_cables_price (va_cpy (I kx_trial_price) (I kx_now_cables_price) 0 0 24)) kx_now_cables_firm (va_cpy (I kx_trial_firm) (I kx_now_cables_firm) 0 0 24)) kx_now_cables_order (va_cpy (I kx_trial_order) (I kx_now_cables_order) 0 0 24)), L, ab_RR, n, nc, ns))) : ab_E w (d + 1) mt_Cables_copy 0 [.ref kx_now_cables, .ref kx_trial] [] (I, L, ab_RR, n, nc, ns) res := by
  refine ab_aload_n (i := 0) d_Cables_copy_0 rfl rfl ?_
  refine ab_aload_n (i := 1) d_Cables_copy_1 rfl rfl ?_
  refine ab_getI (ci := 1) (k := 0) d_Cables_copy_2 v_185 rfl (by decide) (by decide) rfl ?_
  refine ab_putI (ci := 1) (k := 0) d_Cables_copy_5 v_185 rfl (by decide) (by decide) rfl (Or.inl rfl) rfl rfl ?_
  refine ab_aload_n (i := 0) d_Cables_copy_8 rfl rfl ?_
  refine ab_aload_n (i := 1) d_Cables_copy_9 rfl rfl ?_
  refine ab_getI (ci := 1) (k := 1) d_Cables_copy_10 v_192 rfl (by decide) (by decide) rfl ?_
  refine ab_putI (ci := 1) (k := 1) d_Cables_copy_13 v_192 rfl (by decide) (by decide) rfl (Or.inl rfl) rfl rfl ?_
  refine ab_aload_n (i := 0) d_Cables_copy_16 rfl rfl ?_
  refine ab_aload_n (i := 1) d_Cables_copy_17 rfl rfl ?_
  refine ab_getI (ci := 1) (k := 2) d_Cables_copy_18 v_200 rfl (by decide) (by decide) rfl ?_
  refine ab_putI (ci := 1) (k := 2) d_Cables_copy_21 v_200 rfl (by decide) (by decide) rfl (Or.inl rfl) rfl rfl ?_
  refine ab_aload_n (i := 1) d_Cables_copy_24 rfl rfl ?_
  refine ab_getR (ci := 1) (k := 3) (j := kx_trial_first) d_Cables_copy_25 v_204 rfl (by decide) (by decide) rfl r_kx_trial_3 ?_
  refine ab_iconst (v := 0) d_Cables_copy_28 rfl ?_
  refine ab_aload_n (i := 0) d_Cables_copy_29 rfl rfl ?_
  refine ab_getR (ci := 1) (k := 3) (j := kx_now_cables_first) d_Cables_copy_30 v_204 rfl (by decide) (by decide) rfl r_kx_now_cables_3 ?_
  refine ab_iconst (v := 0) d_Cables_copy_33 rfl ?_
  refine ab_bipush (v := 24) d_Cables_copy_34 rfl ?_
  refine ab_copy d_Cables_copy_36 v_675 v_562 v_561 v_161 rfl rfl rfl rfl (by decide) (by decide) (by decide) (by decide) (by decide) (Nat.succ_le_succ (Nat.zero_le _)) (Nat.le_of_ble_eq_true rfl) ?_
  refine ab_aload_n (i := 1) d_Cables_copy_39 rfl rfl ?_
  refine ab_getR (ci := 1) (k := 4) (j := kx_trial_second) d_Cables_copy_40 v_211 rfl (by decide) (by decide) rfl r_kx_trial_4 ?_
  refine ab_iconst (v := 0) d_Cables_copy_43 rfl ?_
  refine ab_aload_n (i := 0) d_Cables_copy_44 rfl rfl ?_
  refine ab_getR (ci := 1) (k := 4) (j := kx_now_cables_second) d_Cables_copy_45 v_211 rfl (by decide) (by decide) rfl r_kx_now_cables_4 ?_
  refine ab_iconst (v := 0) d_Cables_copy_48 rfl ?_
  refine ab_bipush (v := 24) d_Cables_copy_49 rfl ?_
  refine ab_copy d_Cables_copy_51 v_675 v_562 v_561 v_161 rfl rfl rfl rfl (by decide) (by decide) (by decide) (by decide) (by decide) (Nat.succ_le_succ (Nat.zero_le _)) (Nat.le_of_ble_eq_true rfl) ?_
  refine ab_aload_n (i := 1) d_Cables_copy_54 rfl rfl ?_
  refine ab_getR (ci := 1) (k := 5) (j := kx_trial_price) d_Cables_copy_55 v_218 rfl (by decide) (by decide) rfl r_kx_trial_5 ?_
  refine ab_iconst (v := 0) d_Cables_copy_58 rfl ?_
  refine ab_aload_n (i := 0) d_Cables_copy_59 rfl rfl ?_
  refine ab_getR (ci := 1) (k := 5) (j := kx_now_cables_price) d_Cables_copy_60 v_218 rfl (by decide) (by decide) rfl r_kx_now_cables_5 ?_
  refine ab_iconst (v := 0) d_Cables_copy_63 rfl ?_
  refine ab_bipush (v := 24) d_Cables_copy_64 rfl ?_
  refine ab_copy d_Cables_copy_66 v_675 v_562 v_561 v_161 rfl rfl rfl rfl (by decide) (by decide) (by decide) (by decide) (by decide) (Nat.succ_le_succ (Nat.zero_le _)) (Nat.le_of_ble_eq_true rfl) ?_
  refine ab_aload_n (i := 1) d_Cables_copy_69 rfl rfl ?_
  refine ab_getR (ci := 1) (k := 6) (j := kx_trial_firm) d_Cables_copy_70 v_226 rfl (by decide) (by decide) rfl r_kx_trial_6 ?_
  refine ab_iconst (v := 0) d_Cables_copy_73 rfl ?_
  refine ab_aload_n (i := 0) d_Cables_copy_74 rfl rfl ?_
  refine ab_getR (ci := 1) (k := 6) (j := kx_now_cables_firm) d_Cables_copy_75 v_226 rfl (by decide) (by decide) rfl r_kx_now_cables_6 ?_
  refine ab_iconst (v := 0) d_Cables_copy_78 rfl ?_
  refine ab_bipush (v := 24) d_Cables_copy_79 rfl ?_
  refine ab_copy d_Cables_copy_81 v_675 v_562 v_561 v_161 rfl rfl rfl rfl (by decide) (by decide) (by decide) (by decide) (by decide) (Nat.succ_le_succ (Nat.zero_le _)) (Nat.le_of_ble_eq_true rfl) ?_
  refine ab_aload_n (i := 1) d_Cables_copy_84 rfl rfl ?_
  refine ab_getR (ci := 1) (k := 7) (j := kx_trial_order) d_Cables_copy_85 v_229 rfl (by decide) (by decide) rfl r_kx_trial_7 ?_
  refine ab_iconst (v := 0) d_Cables_copy_88 rfl ?_
  refine ab_aload_n (i := 0) d_Cables_copy_89 rfl rfl ?_
  refine ab_getR (ci := 1) (k := 7) (j := kx_now_cables_order) d_Cables_copy_90 v_229 rfl (by decide) (by decide) rfl r_kx_now_cables_7 ?_
  refine ab_iconst (v := 0) d_Cables_copy_93 rfl ?_
  refine ab_bipush (v := 24) d_Cables_copy_94 rfl ?_
  refine ab_copy d_Cables_copy_96 v_675 v_562 v_561 v_161 rfl rfl rfl rfl (by decide) (by decide) (by decide) (by decide) (by decide) (Nat.succ_le_succ (Nat.zero_le _)) (Nat.le_of_ble_eq_true rfl) ?_
  exact ab_vret d_Cables_copy_99 rfl h
-- CableKeeper$Cables.copy(LCableKeeper$Cables;)V over kx_kept_cables, kx_now_cables
theorem q_Cables_copy_2_0 {w : ab_Wd} {d n nc ns : Nat} {I : Nat → Nat → Int32} {L : Nat → Nat → Int64} {res : ab_Re}  (hc : nc ≤ res.2.2.2.2.2.1) (hs : ns ≤ res.2.2.2.2.2.2)
    (h : res = (.inl none, ((ab_row (ab_row (ab_row (ab_row (ab_row (ab_up (ab_up (ab_up I kx_kept_cables 0 (I kx_now_cables 0)) kx_kept_cables 1 (I kx_now_cables 1)) kx_kept_cables 2 (I kx_now_cables 2)) kx_kept_cables_first (va_cpy (I kx_now_cables_first) (I kx_kept_cables_first) 0 0 24)) kx_kept_cables_second (va_cpy (I kx_now_cables_second) (I kx_kept_cables_second) 0 0 24)) kx_kept_cables_price (va_cpy (I kx_now_cables_price) (I kx_kept_cables_price) 0 0 24)) kx_kept_cables_firm (va_cpy (I kx_now_cables_firm) (I kx_kept_cables_firm) 0 0 24)) kx_kept_cables_order (va_cpy (I kx_now_cables_order) (I kx_kept_cables_order) 0 0 24)), L, ab_RR, n, nc, ns))) : ab_E w (d + 1) mt_Cables_copy 0 [.ref kx_kept_cables, .ref kx_now_cables] [] (I, L, ab_RR, n, nc, ns) res := by
  refine ab_aload_n (i := 0) d_Cables_copy_0 rfl rfl ?_
  refine ab_aload_n (i := 1) d_Cables_copy_1 rfl rfl ?_
  refine ab_getI (ci := 1) (k := 0) d_Cables_copy_2 v_185 rfl (by decide) (by decide) rfl ?_
  refine ab_putI (ci := 1) (k := 0) d_Cables_copy_5 v_185 rfl (by decide) (by decide) rfl (Or.inl rfl) rfl rfl ?_
  refine ab_aload_n (i := 0) d_Cables_copy_8 rfl rfl ?_
  refine ab_aload_n (i := 1) d_Cables_copy_9 rfl rfl ?_
  refine ab_getI (ci := 1) (k := 1) d_Cables_copy_10 v_192 rfl (by decide) (by decide) rfl ?_
  refine ab_putI (ci := 1) (k := 1) d_Cables_copy_13 v_192 rfl (by decide) (by decide) rfl (Or.inl rfl) rfl rfl ?_
  refine ab_aload_n (i := 0) d_Cables_copy_16 rfl rfl ?_
  refine ab_aload_n (i := 1) d_Cables_copy_17 rfl rfl ?_
  refine ab_getI (ci := 1) (k := 2) d_Cables_copy_18 v_200 rfl (by decide) (by decide) rfl ?_
  refine ab_putI (ci := 1) (k := 2) d_Cables_copy_21 v_200 rfl (by decide) (by decide) rfl (Or.inl rfl) rfl rfl ?_
  refine ab_aload_n (i := 1) d_Cables_copy_24 rfl rfl ?_
  refine ab_getR (ci := 1) (k := 3) (j := kx_now_cables_first) d_Cables_copy_25 v_204 rfl (by decide) (by decide) rfl r_kx_now_cables_3 ?_
  refine ab_iconst (v := 0) d_Cables_copy_28 rfl ?_
  refine ab_aload_n (i := 0) d_Cables_copy_29 rfl rfl ?_
  refine ab_getR (ci := 1) (k := 3) (j := kx_kept_cables_first) d_Cables_copy_30 v_204 rfl (by decide) (by decide) rfl r_kx_kept_cables_3 ?_
  refine ab_iconst (v := 0) d_Cables_copy_33 rfl ?_
  refine ab_bipush (v := 24) d_Cables_copy_34 rfl ?_
  refine ab_copy d_Cables_copy_36 v_675 v_562 v_561 v_161 rfl rfl rfl rfl (by decide) (by decide) (by decide) (by decide) (by decide) (Nat.succ_le_succ (Nat.zero_le _)) (Nat.le_of_ble_eq_true rfl) ?_
  refine ab_aload_n (i := 1) d_Cables_copy_39 rfl rfl ?_
  refine ab_getR (ci := 1) (k := 4) (j := kx_now_cables_second) d_Cables_copy_40 v_211 rfl (by decide) (by decide) rfl r_kx_now_cables_4 ?_
  refine ab_iconst (v := 0) d_Cables_copy_43 rfl ?_
  refine ab_aload_n (i := 0) d_Cables_copy_44 rfl rfl ?_
  refine ab_getR (ci := 1) (k := 4) (j := kx_kept_cables_second) d_Cables_copy_45 v_211 rfl (by decide) (by decide) rfl r_kx_kept_cables_4 ?_
  refine ab_iconst (v := 0) d_Cables_copy_48 rfl ?_
  refine ab_bipush (v := 24) d_Cables_copy_49 rfl ?_
  refine ab_copy d_Cables_copy_51 v_675 v_562 v_561 v_161 rfl rfl rfl rfl (by decide) (by decide) (by decide) (by decide) (by decide) (Nat.succ_le_succ (Nat.zero_le _)) (Nat.le_of_ble_eq_true rfl) ?_
  refine ab_aload_n (i := 1) d_Cables_copy_54 rfl rfl ?_
  refine ab_getR (ci := 1) (k := 5) (j := kx_now_cables_price) d_Cables_copy_55 v_218 rfl (by decide) (by decide) rfl r_kx_now_cables_5 ?_
  refine ab_iconst (v := 0) d_Cables_copy_58 rfl ?_
  refine ab_aload_n (i := 0) d_Cables_copy_59 rfl rfl ?_
  refine ab_getR (ci := 1) (k := 5) (j := kx_kept_cables_price) d_Cables_copy_60 v_218 rfl (by decide) (by decide) rfl r_kx_kept_cables_5 ?_
  refine ab_iconst (v := 0) d_Cables_copy_63 rfl ?_
  refine ab_bipush (v := 24) d_Cables_copy_64 rfl ?_
  refine ab_copy d_Cables_copy_66 v_675 v_562 v_561 v_161 rfl rfl rfl rfl (by decide) (by decide) (by decide) (by decide) (by decide) (Nat.succ_le_succ (Nat.zero_le _)) (Nat.le_of_ble_eq_true rfl) ?_
  refine ab_aload_n (i := 1) d_Cables_copy_69 rfl rfl ?_
  refine ab_getR (ci := 1) (k := 6) (j := kx_now_cables_firm) d_Cables_copy_70 v_226 rfl (by decide) (by decide) rfl r_kx_now_cables_6 ?_
  refine ab_iconst (v := 0) d_Cables_copy_73 rfl ?_
  refine ab_aload_n (i := 0) d_Cables_copy_74 rfl rfl ?_
  refine ab_getR (ci := 1) (k := 6) (j := kx_kept_cables_firm) d_Cables_copy_75 v_226 rfl (by decide) (by decide) rfl r_kx_kept_cables_6 ?_
  refine ab_iconst (v := 0) d_Cables_copy_78 rfl ?_
  refine ab_bipush (v := 24) d_Cables_copy_79 rfl ?_
  refine ab_copy d_Cables_copy_81 v_675 v_562 v_561 v_161 rfl rfl rfl rfl (by decide) (by decide) (by decide) (by decide) (by decide) (Nat.succ_le_succ (Nat.zero_le _)) (Nat.le_of_ble_eq_true rfl) ?_
  refine ab_aload_n (i := 1) d_Cables_copy_84 rfl rfl ?_
  refine ab_getR (ci := 1) (k := 7) (j := kx_now_cables_order) d_Cables_copy_85 v_229 rfl (by decide) (by decide) rfl r_kx_now_cables_7 ?_
  refine ab_iconst (v := 0) d_Cables_copy_88 rfl ?_
  refine ab_aload_n (i := 0) d_Cables_copy_89 rfl rfl ?_
  refine ab_getR (ci := 1) (k := 7) (j := kx_kept_cables_order) d_Cables_copy_90 v_229 rfl (by decide) (by decide) rfl r_kx_kept_cables_7 ?_
  refine ab_iconst (v := 0) d_Cables_copy_93 rfl ?_
  refine ab_bipush (v := 24) d_Cables_copy_94 rfl ?_
  refine ab_copy d_Cables_copy_96 v_675 v_562 v_561 v_161 rfl rfl rfl rfl (by decide) (by decide) (by decide) (by decide) (by decide) (Nat.succ_le_succ (Nat.zero_le _)) (Nat.le_of_ble_eq_true rfl) ?_
  exact ab_vret d_Cables_copy_99 rfl h
-- CableKeeper$Cables.copy(LCableKeeper$Cables;)V over kx_now_cables, kx_kept_cables
theorem q_Cables_copy_3_0 {w : ab_Wd} {d n nc ns : Nat} {I : Nat → Nat → Int32} {L : Nat → Nat → Int64} {res : ab_Re}  (hc : nc ≤ res.2.2.2.2.2.1) (hs : ns ≤ res.2.2.2.2.2.2)
    (h : res = (.inl none, ((ab_row (ab_row (ab_row (ab_row (ab_row (ab_up (ab_up (ab_up I kx_now_cables 0 (I kx_kept_cables 0)) kx_now_cables 1 (I kx_kept_cables 1)) kx_now_cables 2 (I kx_kept_cables 2)) kx_now_cables_first (va_cpy (I kx_kept_cables_first) (I kx_now_cables_first) 0 0 24)) kx_now_cables_second (va_cpy (I kx_kept_cables_second) (I kx_now_cables_second) 0 0 24)) kx_now_cables_price (va_cpy (I kx_kept_cables_price) (I kx_now_cables_price) 0 0 24)) kx_now_cables_firm (va_cpy (I kx_kept_cables_firm) (I kx_now_cables_firm) 0 0 24)) kx_now_cables_order (va_cpy (I kx_kept_cables_order) (I kx_now_cables_order) 0 0 24)), L, ab_RR, n, nc, ns))) : ab_E w (d + 1) mt_Cables_copy 0 [.ref kx_now_cables, .ref kx_kept_cables] [] (I, L, ab_RR, n, nc, ns) res := by
  refine ab_aload_n (i := 0) d_Cables_copy_0 rfl rfl ?_
  refine ab_aload_n (i := 1) d_Cables_copy_1 rfl rfl ?_
  refine ab_getI (ci := 1) (k := 0) d_Cables_copy_2 v_185 rfl (by decide) (by decide) rfl ?_
  refine ab_putI (ci := 1) (k := 0) d_Cables_copy_5 v_185 rfl (by decide) (by decide) rfl (Or.inl rfl) rfl rfl ?_
  refine ab_aload_n (i := 0) d_Cables_copy_8 rfl rfl ?_
  refine ab_aload_n (i := 1) d_Cables_copy_9 rfl rfl ?_
  refine ab_getI (ci := 1) (k := 1) d_Cables_copy_10 v_192 rfl (by decide) (by decide) rfl ?_
  refine ab_putI (ci := 1) (k := 1) d_Cables_copy_13 v_192 rfl (by decide) (by decide) rfl (Or.inl rfl) rfl rfl ?_
  refine ab_aload_n (i := 0) d_Cables_copy_16 rfl rfl ?_
  refine ab_aload_n (i := 1) d_Cables_copy_17 rfl rfl ?_
  refine ab_getI (ci := 1) (k := 2) d_Cables_copy_18 v_200 rfl (by decide) (by decide) rfl ?_
  refine ab_putI (ci := 1) (k := 2) d_Cables_copy_21 v_200 rfl (by decide) (by decide) rfl (Or.inl rfl) rfl rfl ?_
  refine ab_aload_n (i := 1) d_Cables_copy_24 rfl rfl ?_
  refine ab_getR (ci := 1) (k := 3) (j := kx_kept_cables_first) d_Cables_copy_25 v_204 rfl (by decide) (by decide) rfl r_kx_kept_cables_3 ?_
  refine ab_iconst (v := 0) d_Cables_copy_28 rfl ?_
  refine ab_aload_n (i := 0) d_Cables_copy_29 rfl rfl ?_
  refine ab_getR (ci := 1) (k := 3) (j := kx_now_cables_first) d_Cables_copy_30 v_204 rfl (by decide) (by decide) rfl r_kx_now_cables_3 ?_
  refine ab_iconst (v := 0) d_Cables_copy_33 rfl ?_
  refine ab_bipush (v := 24) d_Cables_copy_34 rfl ?_
  refine ab_copy d_Cables_copy_36 v_675 v_562 v_561 v_161 rfl rfl rfl rfl (by decide) (by decide) (by decide) (by decide) (by decide) (Nat.succ_le_succ (Nat.zero_le _)) (Nat.le_of_ble_eq_true rfl) ?_
  refine ab_aload_n (i := 1) d_Cables_copy_39 rfl rfl ?_
  refine ab_getR (ci := 1) (k := 4) (j := kx_kept_cables_second) d_Cables_copy_40 v_211 rfl (by decide) (by decide) rfl r_kx_kept_cables_4 ?_
  refine ab_iconst (v := 0) d_Cables_copy_43 rfl ?_
  refine ab_aload_n (i := 0) d_Cables_copy_44 rfl rfl ?_
  refine ab_getR (ci := 1) (k := 4) (j := kx_now_cables_second) d_Cables_copy_45 v_211 rfl (by decide) (by decide) rfl r_kx_now_cables_4 ?_
  refine ab_iconst (v := 0) d_Cables_copy_48 rfl ?_
  refine ab_bipush (v := 24) d_Cables_copy_49 rfl ?_
  refine ab_copy d_Cables_copy_51 v_675 v_562 v_561 v_161 rfl rfl rfl rfl (by decide) (by decide) (by decide) (by decide) (by decide) (Nat.succ_le_succ (Nat.zero_le _)) (Nat.le_of_ble_eq_true rfl) ?_
  refine ab_aload_n (i := 1) d_Cables_copy_54 rfl rfl ?_
  refine ab_getR (ci := 1) (k := 5) (j := kx_kept_cables_price) d_Cables_copy_55 v_218 rfl (by decide) (by decide) rfl r_kx_kept_cables_5 ?_
  refine ab_iconst (v := 0) d_Cables_copy_58 rfl ?_
  refine ab_aload_n (i := 0) d_Cables_copy_59 rfl rfl ?_
  refine ab_getR (ci := 1) (k := 5) (j := kx_now_cables_price) d_Cables_copy_60 v_218 rfl (by decide) (by decide) rfl r_kx_now_cables_5 ?_
  refine ab_iconst (v := 0) d_Cables_copy_63 rfl ?_
  refine ab_bipush (v := 24) d_Cables_copy_64 rfl ?_
  refine ab_copy d_Cables_copy_66 v_675 v_562 v_561 v_161 rfl rfl rfl rfl (by decide) (by decide) (by decide) (by decide) (by decide) (Nat.succ_le_succ (Nat.zero_le _)) (Nat.le_of_ble_eq_true rfl) ?_
  refine ab_aload_n (i := 1) d_Cables_copy_69 rfl rfl ?_
  refine ab_getR (ci := 1) (k := 6) (j := kx_kept_cables_firm) d_Cables_copy_70 v_226 rfl (by decide) (by decide) rfl r_kx_kept_cables_6 ?_
  refine ab_iconst (v := 0) d_Cables_copy_73 rfl ?_
  refine ab_aload_n (i := 0) d_Cables_copy_74 rfl rfl ?_
  refine ab_getR (ci := 1) (k := 6) (j := kx_now_cables_firm) d_Cables_copy_75 v_226 rfl (by decide) (by decide) rfl r_kx_now_cables_6 ?_
  refine ab_iconst (v := 0) d_Cables_copy_78 rfl ?_
  refine ab_bipush (v := 24) d_Cables_copy_79 rfl ?_
  refine ab_copy d_Cables_copy_81 v_675 v_562 v_561 v_161 rfl rfl rfl rfl (by decide) (by decide) (by decide) (by decide) (by decide) (Nat.succ_le_succ (Nat.zero_le _)) (Nat.le_of_ble_eq_true rfl) ?_
  refine ab_aload_n (i := 1) d_Cables_copy_84 rfl rfl ?_
  refine ab_getR (ci := 1) (k := 7) (j := kx_kept_cables_order) d_Cables_copy_85 v_229 rfl (by decide) (by decide) rfl r_kx_kept_cables_7 ?_
  refine ab_iconst (v := 0) d_Cables_copy_88 rfl ?_
  refine ab_aload_n (i := 0) d_Cables_copy_89 rfl rfl ?_
  refine ab_getR (ci := 1) (k := 7) (j := kx_now_cables_order) d_Cables_copy_90 v_229 rfl (by decide) (by decide) rfl r_kx_now_cables_7 ?_
  refine ab_iconst (v := 0) d_Cables_copy_93 rfl ?_
  refine ab_bipush (v := 24) d_Cables_copy_94 rfl ?_
  refine ab_copy d_Cables_copy_96 v_675 v_562 v_561 v_161 rfl rfl rfl rfl (by decide) (by decide) (by decide) (by decide) (by decide) (Nat.succ_le_succ (Nat.zero_le _)) (Nat.le_of_ble_eq_true rfl) ?_
  exact ab_vret d_Cables_copy_99 rfl h
-- CableKeeper$Cables.isSound(I)Z over kx_trial
theorem q_Cables_isSound_1_0 {w : ab_Wd} {d n nc ns : Nat} {I : Nat → Nat → Int32} {L : Nat → Nat → Int64} {res : ab_Re} (v1 : Int32) (hc : nc ≤ res.2.2.2.2.2.1) (hs : ns ≤ res.2.2.2.2.2.2)
    (h : ((¬ (((I kx_trial 2) >>> (v1 &&& 31)) &&& 1) = 1 → (ab_E w d mt_Cables_isSound 17 [.ref kx_trial, .int v1] [.int 0] (I, L, ab_RR, n, nc, ns) res)) ∧ ((((I kx_trial 2) >>> (v1 &&& 31)) &&& 1) = 1 → (ab_E w d mt_Cables_isSound 17 [.ref kx_trial, .int v1] [.int 1] (I, L, ab_RR, n, nc, ns) res)))) : ab_E w d mt_Cables_isSound 0 [.ref kx_trial, .int v1] [] (I, L, ab_RR, n, nc, ns) res := by
  refine ab_aload_n (i := 0) d_Cables_isSound_0 rfl rfl ?_
  refine ab_getI (ci := 1) (k := 2) d_Cables_isSound_1 v_200 rfl (by decide) (by decide) rfl ?_
  refine ab_iload_n (i := 1) d_Cables_isSound_4 rfl rfl ?_
  refine ab_ishr d_Cables_isSound_5 ?_
  refine ab_iconst (v := 1) d_Cables_isSound_6 rfl ?_
  refine ab_iand d_Cables_isSound_7 ?_
  refine ab_iconst (v := 1) d_Cables_isSound_8 rfl ?_
  refine ab_icmp_ne (tgt := 16) d_Cables_isSound_9 (by decide) (fun c1 => ?_) (fun c1 => ?_)
  · have h := h.1 c1
    refine ab_iconst (v := 0) d_Cables_isSound_16 rfl ?_
    exact h
  · have h := h.2 c1
    refine ab_iconst (v := 1) d_Cables_isSound_12 rfl ?_
    refine ab_goto (tgt := 17) d_Cables_isSound_13 (by decide) ?_
    exact h
theorem q_Cables_isSound_1_17 {w : ab_Wd} {d n nc ns : Nat} {I : Nat → Nat → Int32} {L : Nat → Nat → Int64} {res : ab_Re} (v1 : Int32) (s0 : Int32) (hc : nc ≤ res.2.2.2.2.2.1) (hs : ns ≤ res.2.2.2.2.2.2)
    (h : (narrow .boolean (.int s0) = .int s0) ∧ res = (.inl (some (.int s0)), (I, L, ab_RR, n, nc, ns))) : ab_E w d mt_Cables_isSound 17 [.ref kx_trial, .int v1] [.int s0] (I, L, ab_RR, n, nc, ns) res := by
  have g := h.1; have h := h.2
  exact ab_iret (ty := .boolean) d_Cables_isSound_17 rfl g h
-- CableKeeper$Cables.add(IIII)I over kx_trial
theorem q_Cables_add_1_0 {w : ab_Wd} {d n nc ns : Nat} {I : Nat → Nat → Int32} {L : Nat → Nat → Int64} {res : ab_Re} (v1 : Int32) (v2 : Int32) (v3 : Int32) (v4 : Int32) (hc : nc ≤ res.2.2.2.2.2.1) (hs : ns ≤ res.2.2.2.2.2.2)
    (h : (((I kx_trial 1) < 24 → ((vp_in (I kx_trial 1) 24) ∧ res = (.inl (some (.int (((I kx_trial 1) + 1) - 1))), ((ab_up (ab_up (ab_up (ab_up (ab_up (ab_up I kx_trial_first (I kx_trial 1).toNatClampNeg v1) kx_trial_second (I kx_trial 1).toNatClampNeg v2) kx_trial_price (I kx_trial 1).toNatClampNeg v3) kx_trial_firm (I kx_trial 1).toNatClampNeg v4) kx_trial 2 ((I kx_trial 2) ||| ((1 : Int32) <<< ((I kx_trial 1) &&& 31)))) kx_trial 1 ((I kx_trial 1) + 1)), L, ab_RR, n, nc, ns)))) ∧ (¬ (I kx_trial 1) < 24 → (res = (.inl (some (.int (-1))), (I, L, ab_RR, n, nc, ns)))))) : ab_E w d mt_Cables_add 0 [.ref kx_trial, .int v1, .int v2, .int v3, .int v4] [] (I, L, ab_RR, n, nc, ns) res := by
  refine ab_aload_n (i := 0) d_Cables_add_0 rfl rfl ?_
  refine ab_getI (ci := 1) (k := 1) d_Cables_add_1 v_192 rfl (by decide) (by decide) rfl ?_
  refine ab_bipush (v := 24) d_Cables_add_4 rfl ?_
  refine ab_icmp_lt (tgt := 11) d_Cables_add_6 (by decide) (fun c1 => ?_) (fun c1 => ?_)
  · have h := h.1 c1
    refine ab_aload_n (i := 0) d_Cables_add_11 rfl rfl ?_
    refine ab_getR (ci := 1) (k := 3) (j := kx_trial_first) d_Cables_add_12 v_204 rfl (by decide) (by decide) rfl r_kx_trial_3 ?_
    refine ab_aload_n (i := 0) d_Cables_add_15 rfl rfl ?_
    refine ab_getI (ci := 1) (k := 1) d_Cables_add_16 v_192 rfl (by decide) (by decide) rfl ?_
    refine ab_iload_n (i := 1) d_Cables_add_19 rfl rfl ?_
    have g2 := h.1; have h := h.2
    refine ab_iast d_Cables_add_20 rfl rfl g2 ?_
    refine ab_aload_n (i := 0) d_Cables_add_21 rfl rfl ?_
    refine ab_getR (ci := 1) (k := 4) (j := kx_trial_second) d_Cables_add_22 v_211 rfl (by decide) (by decide) rfl r_kx_trial_4 ?_
    refine ab_aload_n (i := 0) d_Cables_add_25 rfl rfl ?_
    refine ab_getI (ci := 1) (k := 1) d_Cables_add_26 v_192 rfl (by decide) (by decide) rfl ?_
    refine ab_iload_n (i := 2) d_Cables_add_29 rfl rfl ?_
    refine ab_iast d_Cables_add_30 rfl rfl g2 ?_
    refine ab_aload_n (i := 0) d_Cables_add_31 rfl rfl ?_
    refine ab_getR (ci := 1) (k := 5) (j := kx_trial_price) d_Cables_add_32 v_218 rfl (by decide) (by decide) rfl r_kx_trial_5 ?_
    refine ab_aload_n (i := 0) d_Cables_add_35 rfl rfl ?_
    refine ab_getI (ci := 1) (k := 1) d_Cables_add_36 v_192 rfl (by decide) (by decide) rfl ?_
    refine ab_iload_n (i := 3) d_Cables_add_39 rfl rfl ?_
    refine ab_iast d_Cables_add_40 rfl rfl g2 ?_
    refine ab_aload_n (i := 0) d_Cables_add_41 rfl rfl ?_
    refine ab_getR (ci := 1) (k := 6) (j := kx_trial_firm) d_Cables_add_42 v_226 rfl (by decide) (by decide) rfl r_kx_trial_6 ?_
    refine ab_aload_n (i := 0) d_Cables_add_45 rfl rfl ?_
    refine ab_getI (ci := 1) (k := 1) d_Cables_add_46 v_192 rfl (by decide) (by decide) rfl ?_
    refine ab_iload (i := 4) d_Cables_add_49 rfl ?_
    refine ab_iast d_Cables_add_51 rfl rfl g2 ?_
    refine ab_aload_n (i := 0) d_Cables_add_52 rfl rfl ?_
    refine ab_dupr d_Cables_add_53 ?_
    refine ab_getI (ci := 1) (k := 2) d_Cables_add_54 v_200 rfl (by decide) (by decide) rfl ?_
    refine ab_iconst (v := 1) d_Cables_add_57 rfl ?_
    refine ab_aload_n (i := 0) d_Cables_add_58 rfl rfl ?_
    refine ab_getI (ci := 1) (k := 1) d_Cables_add_59 v_192 rfl (by decide) (by decide) rfl ?_
    refine ab_ishl d_Cables_add_62 ?_
    refine ab_ior d_Cables_add_63 ?_
    refine ab_putI (ci := 1) (k := 2) d_Cables_add_64 v_200 rfl (by decide) (by decide) rfl (Or.inl rfl) rfl rfl ?_
    refine ab_aload_n (i := 0) d_Cables_add_67 rfl rfl ?_
    refine ab_dupr d_Cables_add_68 ?_
    refine ab_getI (ci := 1) (k := 1) d_Cables_add_69 v_192 rfl (by decide) (by decide) rfl ?_
    refine ab_iconst (v := 1) d_Cables_add_72 rfl ?_
    refine ab_iadd d_Cables_add_73 ?_
    refine ab_putI (ci := 1) (k := 1) d_Cables_add_74 v_192 rfl (by decide) (by decide) rfl (Or.inl rfl) rfl rfl ?_
    refine ab_aload_n (i := 0) d_Cables_add_77 rfl rfl ?_
    refine ab_getI (ci := 1) (k := 1) d_Cables_add_78 v_192 rfl (by decide) (by decide) rfl ?_
    refine ab_iconst (v := 1) d_Cables_add_81 rfl ?_
    refine ab_isub d_Cables_add_82 ?_
    exact ab_iret (ty := .int) d_Cables_add_83 rfl rfl h
  · have h := h.2 c1
    refine ab_iconst (v := (-1)) d_Cables_add_9 rfl ?_
    exact ab_iret (ty := .int) d_Cables_add_10 rfl rfl h
