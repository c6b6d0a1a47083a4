theorem d_K_tellPrice_0 : decode (ab_bc mt_K_tellPrice) 0 = .ok (.aload_n 0, 1) := by decide +kernel
theorem d_K_tellPrice_1 : decode (ab_bc mt_K_tellPrice) 1 = .ok (.getfield 23, 3) := by decide +kernel
theorem d_K_tellPrice_4 : decode (ab_bc mt_K_tellPrice) 4 = .ok (.getfield 110, 3) := by decide +kernel
theorem d_K_tellPrice_7 : decode (ab_bc mt_K_tellPrice) 7 = .ok (.getfield 195, 3) := by decide +kernel
theorem d_K_tellPrice_10 : decode (ab_bc mt_K_tellPrice) 10 = .ok (.iload_n 1, 1) := by decide +kernel
theorem d_K_tellPrice_11 : decode (ab_bc mt_K_tellPrice) 11 = .ok (.iaload, 1) := by decide +kernel
theorem d_K_tellPrice_12 : decode (ab_bc mt_K_tellPrice) 12 = .ok (.istore_n 3, 1) := by decide +kernel
theorem d_K_tellPrice_13 : decode (ab_bc mt_K_tellPrice) 13 = .ok (.iload_n 2, 1) := by decide +kernel
theorem d_K_tellPrice_14 : decode (ab_bc mt_K_tellPrice) 14 = .ok (.iload_n 3, 1) := by decide +kernel
theorem d_K_tellPrice_15 : decode (ab_bc mt_K_tellPrice) 15 = .ok (.if_icmp .ne 4, 3) := by decide +kernel
theorem d_K_tellPrice_18 : decode (ab_bc mt_K_tellPrice) 18 = .ok (.return_, 1) := by decide +kernel
theorem d_K_tellPrice_19 : decode (ab_bc mt_K_tellPrice) 19 = .ok (.aload_n 0, 1) := by decide +kernel
theorem d_K_tellPrice_20 : decode (ab_bc mt_K_tellPrice) 20 = .ok (.getfield 23, 3) := by decide +kernel
theorem d_K_tellPrice_23 : decode (ab_bc mt_K_tellPrice) 23 = .ok (.getfield 110, 3) := by decide +kernel
theorem d_K_tellPrice_26 : decode (ab_bc mt_K_tellPrice) 26 = .ok (.getfield 195, 3) := by decide +kernel
theorem d_K_tellPrice_29 : decode (ab_bc mt_K_tellPrice) 29 = .ok (.iload_n 1, 1) := by decide +kernel
theorem d_K_tellPrice_30 : decode (ab_bc mt_K_tellPrice) 30 = .ok (.iload_n 2, 1) := by decide +kernel
theorem d_K_tellPrice_31 : decode (ab_bc mt_K_tellPrice) 31 = .ok (.iastore, 1) := by decide +kernel
theorem d_K_tellPrice_32 : decode (ab_bc mt_K_tellPrice) 32 = .ok (.aload_n 0, 1) := by decide +kernel
theorem d_K_tellPrice_33 : decode (ab_bc mt_K_tellPrice) 33 = .ok (.getfield 23, 3) := by decide +kernel
theorem d_K_tellPrice_36 : decode (ab_bc mt_K_tellPrice) 36 = .ok (.getfield 110, 3) := by decide +kernel
theorem d_K_tellPrice_39 : decode (ab_bc mt_K_tellPrice) 39 = .ok (.invokevirtual 362, 3) := by decide +kernel
theorem d_K_tellPrice_42 : decode (ab_bc mt_K_tellPrice) 42 = .ok (.aload_n 0, 1) := by decide +kernel
theorem d_K_tellPrice_43 : decode (ab_bc mt_K_tellPrice) 43 = .ok (.iload_n 2, 1) := by decide +kernel
theorem d_K_tellPrice_44 : decode (ab_bc mt_K_tellPrice) 44 = .ok (.iload_n 3, 1) := by decide +kernel
theorem d_K_tellPrice_45 : decode (ab_bc mt_K_tellPrice) 45 = .ok (.if_icmp .le 7, 3) := by decide +kernel
theorem d_K_tellPrice_48 : decode (ab_bc mt_K_tellPrice) 48 = .ok (.iconst 1, 1) := by decide +kernel
theorem d_K_tellPrice_49 : decode (ab_bc mt_K_tellPrice) 49 = .ok (.goto 4, 3) := by decide +kernel
theorem d_K_tellPrice_52 : decode (ab_bc mt_K_tellPrice) 52 = .ok (.iconst 2, 1) := by decide +kernel
theorem d_K_tellPrice_53 : decode (ab_bc mt_K_tellPrice) 53 = .ok (.iload_n 1, 1) := by decide +kernel
theorem d_K_tellPrice_54 : decode (ab_bc mt_K_tellPrice) 54 = .ok (.invokevirtual 352, 3) := by decide +kernel
theorem d_K_tellPrice_57 : decode (ab_bc mt_K_tellPrice) 57 = .ok (.return_, 1) := by decide +kernel
-- CableKeeper.tellPrice(II)V over kx
theorem q_K_tellPrice_0 {w : ab_Wd} {d n nc ns : Nat} {I : Nat → Nat → Int32} {L : Nat → Nat → Int64} {res : ab_Re} (v1 : Int32) (v2 : Int32) (hc : nc ≤ res.2.2.2.2.2.1) (hs : ns ≤ res.2.2.2.2.2.2)
    (h : (vp_in v1 24) ∧ ((¬ v2 = (I kx_now_cables_price v1.toNatClampNeg) → (∃ (I4 : Nat → Nat → Int32), ab_C w d mt_Cables_sort [.ref kx_now_cables] ((ab_up I kx_now_cables_price v1.toNatClampNeg v2), L, ab_RR, n, nc, ns) (.inl none, (I4, L, ab_RR, n, nc, ns)) ∧ ((v2 ≤ (I kx_now_cables_price v1.toNatClampNeg) → (ab_E w (d + 1) mt_K_tellPrice 53 [.ref kx, .int v1, .int v2, .int (I kx_now_cables_price v1.toNatClampNeg)] [.int 2, .ref kx] (I4, L, ab_RR, n, nc, ns) res)) ∧ (¬ v2 ≤ (I kx_now_cables_price v1.toNatClampNeg) → (ab_E w (d + 1) mt_K_tellPrice 53 [.ref kx, .int v1, .int v2, .int (I kx_now_cables_price v1.toNatClampNeg)] [.int 1, .ref kx] (I4, L, ab_RR, n, nc, ns) res))))) ∧ (v2 = (I kx_now_cables_price v1.toNatClampNeg) → (res = (.inl none, (I, L, ab_RR, n, nc, ns)))))) : ab_E w (d + 1) mt_K_tellPrice 0 [.ref kx, .int v1, .int v2, .null] [] (I, L, ab_RR, n, nc, ns) res := by
  refine ab_aload_n (i := 0) d_K_tellPrice_0 rfl rfl ?_
  refine ab_getR (ci := 10) (k := 3) (j := kx_now) d_K_tellPrice_1 v_475 rfl (by decide) (by decide) rfl r_kx_3 ?_
  refine ab_getR (ci := 6) (k := 0) (j := kx_now_cables) d_K_tellPrice_4 v_294 rfl (by decide) (by decide) rfl r_kx_now_0 ?_
  refine ab_getR (ci := 1) (k := 5) (j := kx_now_cables_price) d_K_tellPrice_7 v_224 rfl (by decide) (by decide) rfl r_kx_now_cables_5 ?_
  refine ab_iload_n (i := 1) d_K_tellPrice_10 rfl rfl ?_
  have g1 := h.1; have h := h.2
  refine ab_iald d_K_tellPrice_11 rfl rfl g1 ?_
  refine ab_istore_n (i := 3) d_K_tellPrice_12 rfl (by decide) (Or.inr rfl) ?_
  refine ab_iload_n (i := 2) d_K_tellPrice_13 rfl rfl ?_
  refine ab_iload_n (i := 3) d_K_tellPrice_14 rfl rfl ?_
  refine ab_icmp_ne (tgt := 19) d_K_tellPrice_15 (by decide) (fun c2 => ?_) (fun c2 => ?_)
  · have h := h.1 c2
    refine ab_aload_n (i := 0) d_K_tellPrice_19 rfl rfl ?_
    refine ab_getR (ci := 10) (k := 3) (j := kx_now) d_K_tellPrice_20 v_475 rfl (by decide) (by decide) rfl r_kx_3 ?_
    refine ab_getR (ci := 6) (k := 0) (j := kx_now_cables) d_K_tellPrice_23 v_294 rfl (by decide) (by decide) rfl r_kx_now_0 ?_
    refine ab_getR (ci := 1) (k := 5) (j := kx_now_cables_price) d_K_tellPrice_26 v_224 rfl (by decide) (by decide) rfl r_kx_now_cables_5 ?_
    refine ab_iload_n (i := 1) d_K_tellPrice_29 rfl rfl ?_
    refine ab_iload_n (i := 2) d_K_tellPrice_30 rfl rfl ?_
    refine ab_iast d_K_tellPrice_31 rfl rfl g1 ?_
    refine ab_aload_n (i := 0) d_K_tellPrice_32 rfl rfl ?_
    refine ab_getR (ci := 10) (k := 3) (j := kx_now) d_K_tellPrice_33 v_475 rfl (by decide) (by decide) rfl r_kx_3 ?_
    refine ab_getR (ci := 6) (k := 0) (j := kx_now_cables) d_K_tellPrice_36 v_294 rfl (by decide) (by decide) rfl r_kx_now_0 ?_
    obtain ⟨I4, hC, h⟩ := h
    refine ab_callV (me2 := mt_Cables_sort) (b := kx_now_cables) (as := []) (st := []) (rv := none) (M2 := (I4, L, ab_RR, n, nc, ns)) d_K_tellPrice_39 ce_Cables_sort v_591 v_592 v_593 (by decide) rfl (Nat.le_of_ble_eq_true rfl) hC (Nat.le_refl _) (Nat.le_refl _) hc hs (fun j h9 => by cases h9) (fun _ _ => rfl) ?_
    show ab_E w (d + 1) mt_K_tellPrice 42 [.ref kx, .int v1, .int v2, .int (I kx_now_cables_price v1.toNatClampNeg)] [] (I4, L, ab_RR, n, nc, ns) res
    refine ab_aload_n (i := 0) d_K_tellPrice_42 rfl rfl ?_
    refine ab_iload_n (i := 2) d_K_tellPrice_43 rfl rfl ?_
    refine ab_iload_n (i := 3) d_K_tellPrice_44 rfl rfl ?_
    refine ab_icmp_le (tgt := 52) d_K_tellPrice_45 (by decide) (fun c5 => ?_) (fun c5 => ?_)
    · have h := h.1 c5
      refine ab_iconst (v := 2) d_K_tellPrice_52 rfl ?_
      exact h
    · have h := h.2 c5
      refine ab_iconst (v := 1) d_K_tellPrice_48 rfl ?_
      refine ab_goto (tgt := 53) d_K_tellPrice_49 (by decide) ?_
      exact h
  · have h := h.2 c2
    exact ab_vret d_K_tellPrice_18 rfl h
theorem q_K_tellPrice_53 {w : ab_Wd} {d n nc ns : Nat} {I : Nat → Nat → Int32} {L : Nat → Nat → Int64} {res : ab_Re} (v1 : Int32) (v2 : Int32) (v3 : Int32) (s1 : Int32) (hc : nc ≤ res.2.2.2.2.2.1) (hs : ns ≤ res.2.2.2.2.2.2)
    (h : ∃ (I2 : Nat → Nat → Int32), ab_C w d mt_K_regrow [.ref kx, .int s1, .int v1] (I, L, ab_RR, n, nc, ns) (.inl none, (I2, L, ab_RR, n, nc, ns)) ∧ res = (.inl none, (I2, L, ab_RR, n, nc, ns))) : ab_E w (d + 1) mt_K_tellPrice 53 [.ref kx, .int v1, .int v2, .int v3] [.int s1, .ref kx] (I, L, ab_RR, n, nc, ns) res := by
  refine ab_iload_n (i := 1) d_K_tellPrice_53 rfl rfl ?_
  obtain ⟨I2, hC, h⟩ := h
  refine ab_callV (me2 := mt_K_regrow) (b := kx) (as := [.int s1, .int v1]) (st := []) (rv := none) (M2 := (I2, L, ab_RR, n, nc, ns)) d_K_tellPrice_54 ce_K_regrow v_595 v_597 v_12 (by decide) rfl (Nat.le_of_ble_eq_true rfl) hC (Nat.le_refl _) (Nat.le_refl _) hc hs (fun j h9 => by cases h9) (fun _ _ => rfl) ?_
  show ab_E w (d + 1) mt_K_tellPrice 57 [.ref kx, .int v1, .int v2, .int v3] [] (I2, L, ab_RR, n, nc, ns) res
  exact ab_vret d_K_tellPrice_57 rfl h
theorem d_K_regrow_0 : decode (ab_bc mt_K_regrow) 0 = .ok (.aload_n 0, 1) := by decide +kernel
theorem d_K_regrow_1 : decode (ab_bc mt_K_regrow) 1 = .ok (.getfield 37, 3) := by decide +kernel
theorem d_K_regrow_4 : decode (ab_bc mt_K_regrow) 4 = .ok (.getfield 122, 3) := by decide +kernel
theorem d_K_regrow_7 : decode (ab_bc mt_K_regrow) 7 = .ok (.istore_n 3, 1) := by decide +kernel
theorem d_K_regrow_8 : decode (ab_bc mt_K_regrow) 8 = .ok (.aload_n 0, 1) := by decide +kernel
theorem d_K_regrow_9 : decode (ab_bc mt_K_regrow) 9 = .ok (.getfield 37, 3) := by decide +kernel
theorem d_K_regrow_12 : decode (ab_bc mt_K_regrow) 12 = .ok (.aload_n 0, 1) := by decide +kernel
theorem d_K_regrow_13 : decode (ab_bc mt_K_regrow) 13 = .ok (.getfield 23, 3) := by decide +kernel
theorem d_K_regrow_16 : decode (ab_bc mt_K_regrow) 16 = .ok (.getfield 110, 3) := by decide +kernel
theorem d_K_regrow_19 : decode (ab_bc mt_K_regrow) 19 = .ok (.aload_n 0, 1) := by decide +kernel
theorem d_K_regrow_20 : decode (ab_bc mt_K_regrow) 20 = .ok (.getfield 23, 3) := by decide +kernel
theorem d_K_regrow_23 : decode (ab_bc mt_K_regrow) 23 = .ok (.getfield 110, 3) := by decide +kernel
theorem d_K_regrow_26 : decode (ab_bc mt_K_regrow) 26 = .ok (.getfield 119, 3) := by decide +kernel
theorem d_K_regrow_29 : decode (ab_bc mt_K_regrow) 29 = .ok (.invokevirtual 287, 3) := by decide +kernel
theorem d_K_regrow_32 : decode (ab_bc mt_K_regrow) 32 = .ok (.iload_n 3, 1) := by decide +kernel
theorem d_K_regrow_33 : decode (ab_bc mt_K_regrow) 33 = .ok (.aload_n 0, 1) := by decide +kernel
theorem d_K_regrow_34 : decode (ab_bc mt_K_regrow) 34 = .ok (.getfield 37, 3) := by decide +kernel
theorem d_K_regrow_37 : decode (ab_bc mt_K_regrow) 37 = .ok (.getfield 122, 3) := by decide +kernel
theorem d_K_regrow_40 : decode (ab_bc mt_K_regrow) 40 = .ok (.iconst (-1), 1) := by decide +kernel
theorem d_K_regrow_41 : decode (ab_bc mt_K_regrow) 41 = .ok (.ixor, 1) := by decide +kernel
theorem d_K_regrow_42 : decode (ab_bc mt_K_regrow) 42 = .ok (.iand, 1) := by decide +kernel
theorem d_K_regrow_43 : decode (ab_bc mt_K_regrow) 43 = .ok (.invokestatic 408, 3) := by decide +kernel
theorem d_K_regrow_46 : decode (ab_bc mt_K_regrow) 46 = .ok (.istore 4, 2) := by decide +kernel
theorem d_K_regrow_48 : decode (ab_bc mt_K_regrow) 48 = .ok (.aload_n 0, 1) := by decide +kernel
theorem d_K_regrow_49 : decode (ab_bc mt_K_regrow) 49 = .ok (.getfield 37, 3) := by decide +kernel
theorem d_K_regrow_52 : decode (ab_bc mt_K_regrow) 52 = .ok (.getfield 122, 3) := by decide +kernel
theorem d_K_regrow_55 : decode (ab_bc mt_K_regrow) 55 = .ok (.iload_n 3, 1) := by decide +kernel
theorem d_K_regrow_56 : decode (ab_bc mt_K_regrow) 56 = .ok (.iconst (-1), 1) := by decide +kernel
theorem d_K_regrow_57 : decode (ab_bc mt_K_regrow) 57 = .ok (.ixor, 1) := by decide +kernel
theorem d_K_regrow_58 : decode (ab_bc mt_K_regrow) 58 = .ok (.iand, 1) := by decide +kernel
theorem d_K_regrow_59 : decode (ab_bc mt_K_regrow) 59 = .ok (.invokestatic 408, 3) := by decide +kernel
theorem d_K_regrow_62 : decode (ab_bc mt_K_regrow) 62 = .ok (.istore 5, 2) := by decide +kernel
theorem d_K_regrow_64 : decode (ab_bc mt_K_regrow) 64 = .ok (.iload 4, 2) := by decide +kernel
theorem d_K_regrow_66 : decode (ab_bc mt_K_regrow) 66 = .ok (.iconst (-1), 1) := by decide +kernel
theorem d_K_regrow_67 : decode (ab_bc mt_K_regrow) 67 = .ok (.if_icmp .ne 9, 3) := by decide +kernel
theorem d_K_regrow_70 : decode (ab_bc mt_K_regrow) 70 = .ok (.iload 5, 2) := by decide +kernel
theorem d_K_regrow_72 : decode (ab_bc mt_K_regrow) 72 = .ok (.iconst (-1), 1) := by decide +kernel
theorem d_K_regrow_73 : decode (ab_bc mt_K_regrow) 73 = .ok (.if_icmp .eq 26, 3) := by decide +kernel
theorem d_K_regrow_76 : decode (ab_bc mt_K_regrow) 76 = .ok (.aload_n 0, 1) := by decide +kernel
theorem d_K_regrow_77 : decode (ab_bc mt_K_regrow) 77 = .ok (.getfield 23, 3) := by decide +kernel
theorem d_K_regrow_80 : decode (ab_bc mt_K_regrow) 80 = .ok (.getfield 131, 3) := by decide +kernel
theorem d_K_regrow_83 : decode (ab_bc mt_K_regrow) 83 = .ok (.iload_n 1, 1) := by decide +kernel
theorem d_K_regrow_84 : decode (ab_bc mt_K_regrow) 84 = .ok (.iload_n 2, 1) := by decide +kernel
theorem d_K_regrow_85 : decode (ab_bc mt_K_regrow) 85 = .ok (.iload 4, 2) := by decide +kernel
theorem d_K_regrow_87 : decode (ab_bc mt_K_regrow) 87 = .ok (.iload 5, 2) := by decide +kernel
theorem d_K_regrow_89 : decode (ab_bc mt_K_regrow) 89 = .ok (.aload_n 0, 1) := by decide +kernel
theorem d_K_regrow_90 : decode (ab_bc mt_K_regrow) 90 = .ok (.getfield 37, 3) := by decide +kernel
theorem d_K_regrow_93 : decode (ab_bc mt_K_regrow) 93 = .ok (.getfield 125, 3) := by decide +kernel
theorem d_K_regrow_96 : decode (ab_bc mt_K_regrow) 96 = .ok (.invokevirtual 411, 3) := by decide +kernel
theorem d_K_regrow_99 : decode (ab_bc mt_K_regrow) 99 = .ok (.return_, 1) := by decide +kernel
-- CableKeeper.regrow(II)V over kx
theorem q_K_regrow_0 {w : ab_Wd} {d n nc ns : Nat} {I : Nat → Nat → Int32} {L : Nat → Nat → Int64} {res : ab_Re} (v1 : Int32) (v2 : Int32) (hc : nc ≤ res.2.2.2.2.2.1) (hs : ns ≤ res.2.2.2.2.2.2)
    (h : ∃ (I2 : Nat → Nat → Int32), ab_C w d mt_Forest_grow [.ref kx_forest, .ref kx_now_cables, .int (I kx_now_cables 2)] (I, L, ab_RR, n, nc, ns) (.inl none, (I2, L, ab_RR, n, nc, ns)) ∧ ∃ (r3 : Int32), ab_C w d mt_K_lowestOf [.int ((I kx_forest 2) &&& ((I2 kx_forest 2) ^^^ (-1)))] (I2, L, ab_RR, n, nc, ns) (.inl (some (.int r3)), (I2, L, ab_RR, n, nc, ns)) ∧ ∃ (r4 : Int32), ab_C w d mt_K_lowestOf [.int ((I2 kx_forest 2) &&& ((I kx_forest 2) ^^^ (-1)))] (I2, L, ab_RR, n, nc, ns) (.inl (some (.int r4)), (I2, L, ab_RR, n, nc, ns)) ∧ ((¬ r3 = (-1) → (ab_E w (d + 1) mt_K_regrow 76 [.ref kx, .int v1, .int v2, .int (I kx_forest 2), .int r3, .int r4] [] (I2, L, ab_RR, n, nc, ns) res)) ∧ (r3 = (-1) → ((r4 = (-1) → (ab_E w (d + 1) mt_K_regrow 99 [.ref kx, .int v1, .int v2, .int (I kx_forest 2), .int r3, .int r4] [] (I2, L, ab_RR, n, nc, ns) res)) ∧ (¬ r4 = (-1) → (ab_E w (d + 1) mt_K_regrow 76 [.ref kx, .int v1, .int v2, .int (I kx_forest 2), .int r3, .int r4] [] (I2, L, ab_RR, n, nc, ns) res)))))) : ab_E w (d + 1) mt_K_regrow 0 [.ref kx, .int v1, .int v2, .null, .null, .null] [] (I, L, ab_RR, n, nc, ns) res := by
  refine ab_aload_n (i := 0) d_K_regrow_0 rfl rfl ?_
  refine ab_getR (ci := 10) (k := 6) (j := kx_forest) d_K_regrow_1 v_478 rfl (by decide) (by decide) rfl r_kx_6 ?_
  refine ab_getI (ci := 2) (k := 2) d_K_regrow_4 v_335 rfl (by decide) (by decide) rfl ?_
  refine ab_istore_n (i := 3) d_K_regrow_7 rfl (by decide) (Or.inr rfl) ?_
  refine ab_aload_n (i := 0) d_K_regrow_8 rfl rfl ?_
  refine ab_getR (ci := 10) (k := 6) (j := kx_forest) d_K_regrow_9 v_478 rfl (by decide) (by decide) rfl r_kx_6 ?_
  refine ab_aload_n (i := 0) d_K_regrow_12 rfl rfl ?_
  refine ab_getR (ci := 10) (k := 3) (j := kx_now) d_K_regrow_13 v_475 rfl (by decide) (by decide) rfl r_kx_3 ?_
  refine ab_getR (ci := 6) (k := 0) (j := kx_now_cables) d_K_regrow_16 v_294 rfl (by decide) (by decide) rfl r_kx_now_0 ?_
  refine ab_aload_n (i := 0) d_K_regrow_19 rfl rfl ?_
  refine ab_getR (ci := 10) (k := 3) (j := kx_now) d_K_regrow_20 v_475 rfl (by decide) (by decide) rfl r_kx_3 ?_
  refine ab_getR (ci := 6) (k := 0) (j := kx_now_cables) d_K_regrow_23 v_294 rfl (by decide) (by decide) rfl r_kx_now_0 ?_
  refine ab_getI (ci := 1) (k := 2) d_K_regrow_26 v_202 rfl (by decide) (by decide) rfl ?_
  obtain ⟨I2, hC, h⟩ := h
  refine ab_callV (me2 := mt_Forest_grow) (b := kx_forest) (as := [.ref kx_now_cables, .int (I kx_now_cables 2)]) (st := []) (rv := none) (M2 := (I2, L, ab_RR, n, nc, ns)) d_K_regrow_29 ce_Forest_grow v_440 v_441 v_442 (by decide) rfl (Nat.le_of_ble_eq_true rfl) hC (Nat.le_refl _) (Nat.le_refl _) hc hs (fun j h9 => by cases h9) (fun _ _ => rfl) ?_
  show ab_E w (d + 1) mt_K_regrow 32 [.ref kx, .int v1, .int v2, .int (I kx_forest 2), .null, .null] [] (I2, L, ab_RR, n, nc, ns) res
  refine ab_iload_n (i := 3) d_K_regrow_32 rfl rfl ?_
  refine ab_aload_n (i := 0) d_K_regrow_33 rfl rfl ?_
  refine ab_getR (ci := 10) (k := 6) (j := kx_forest) d_K_regrow_34 v_478 rfl (by decide) (by decide) rfl r_kx_6 ?_
  refine ab_getI (ci := 2) (k := 2) d_K_regrow_37 v_335 rfl (by decide) (by decide) rfl ?_
  refine ab_iconst (v := (-1)) d_K_regrow_40 rfl ?_
  refine ab_ixor d_K_regrow_41 ?_
  refine ab_iand d_K_regrow_42 ?_
  obtain ⟨r3, hC, h⟩ := h
  refine ab_callS (me2 := mt_K_lowestOf) (as := [.int ((I kx_forest 2) &&& ((I2 kx_forest 2) ^^^ (-1)))]) (st := []) (rv := (some (.int r3))) (M2 := (I2, L, ab_RR, n, nc, ns)) d_K_regrow_43 ce_K_lowestOf ⟨v_600, Or.inl v_599⟩ (Nat.le_of_ble_eq_true rfl) hC (Nat.le_refl _) (Nat.le_refl _) hc hs (fun j h9 => by cases h9) (fun _ _ => rfl) ?_
  show ab_E w (d + 1) mt_K_regrow 46 [.ref kx, .int v1, .int v2, .int (I kx_forest 2), .null, .null] [.int r3] (I2, L, ab_RR, n, nc, ns) res
  refine ab_istore (i := 4) d_K_regrow_46 (by decide) (Or.inr rfl) ?_
  refine ab_aload_n (i := 0) d_K_regrow_48 rfl rfl ?_
  refine ab_getR (ci := 10) (k := 6) (j := kx_forest) d_K_regrow_49 v_478 rfl (by decide) (by decide) rfl r_kx_6 ?_
  refine ab_getI (ci := 2) (k := 2) d_K_regrow_52 v_335 rfl (by decide) (by decide) rfl ?_
  refine ab_iload_n (i := 3) d_K_regrow_55 rfl rfl ?_
  refine ab_iconst (v := (-1)) d_K_regrow_56 rfl ?_
  refine ab_ixor d_K_regrow_57 ?_
  refine ab_iand d_K_regrow_58 ?_
  obtain ⟨r4, hC, h⟩ := h
  refine ab_callS (me2 := mt_K_lowestOf) (as := [.int ((I2 kx_forest 2) &&& ((I kx_forest 2) ^^^ (-1)))]) (st := []) (rv := (some (.int r4))) (M2 := (I2, L, ab_RR, n, nc, ns)) d_K_regrow_59 ce_K_lowestOf ⟨v_600, Or.inl v_599⟩ (Nat.le_of_ble_eq_true rfl) hC (Nat.le_refl _) (Nat.le_refl _) hc hs (fun j h9 => by cases h9) (fun _ _ => rfl) ?_
  show ab_E w (d + 1) mt_K_regrow 62 [.ref kx, .int v1, .int v2, .int (I kx_forest 2), .int r3, .null] [.int r4] (I2, L, ab_RR, n, nc, ns) res
  refine ab_istore (i := 5) d_K_regrow_62 (by decide) (Or.inr rfl) ?_
  refine ab_iload (i := 4) d_K_regrow_64 rfl ?_
  refine ab_iconst (v := (-1)) d_K_regrow_66 rfl ?_
  refine ab_icmp_ne (tgt := 76) d_K_regrow_67 (by decide) (fun c5 => ?_) (fun c5 => ?_)
  · have h := h.1 c5
    exact h
  · have h := h.2 c5
    refine ab_iload (i := 5) d_K_regrow_70 rfl ?_
    refine ab_iconst (v := (-1)) d_K_regrow_72 rfl ?_
    refine ab_icmp_eq (tgt := 99) d_K_regrow_73 (by decide) (fun c6 => ?_) (fun c6 => ?_)
    · have h := h.1 c6
      exact h
    · have h := h.2 c6
      exact h
theorem q_K_regrow_76 {w : ab_Wd} {d n nc ns : Nat} {I : Nat → Nat → Int32} {L : Nat → Nat → Int64} {res : ab_Re} (v1 : Int32) (v2 : Int32) (v3 : Int32) (v4 : Int32) (v5 : Int32) (hc : nc ≤ res.2.2.2.2.2.1) (hs : ns ≤ res.2.2.2.2.2.2)
    (h : ∃ (I2 : Nat → Nat → Int32), ab_C w d mt_Swaps_tell [.ref kx_now_swaps, .int v1, .int v2, .int v4, .int v5, .int (I kx_forest 3)] (I, L, ab_RR, n, nc, ns) (.inl none, (I2, L, ab_RR, n, nc, ns)) ∧ ab_E w (d + 1) mt_K_regrow 99 [.ref kx, .int v1, .int v2, .int v3, .int v4, .int v5] [] (I2, L, ab_RR, n, nc, ns) res) : ab_E w (d + 1) mt_K_regrow 76 [.ref kx, .int v1, .int v2, .int v3, .int v4, .int v5] [] (I, L, ab_RR, n, nc, ns) res := by
  refine ab_aload_n (i := 0) d_K_regrow_76 rfl rfl ?_
  refine ab_getR (ci := 10) (k := 3) (j := kx_now) d_K_regrow_77 v_475 rfl (by decide) (by decide) rfl r_kx_3 ?_
  refine ab_getR (ci := 6) (k := 1) (j := kx_now_swaps) d_K_regrow_80 v_296 rfl (by decide) (by decide) rfl r_kx_now_1 ?_
  refine ab_iload_n (i := 1) d_K_regrow_83 rfl rfl ?_
  refine ab_iload_n (i := 2) d_K_regrow_84 rfl rfl ?_
  refine ab_iload (i := 4) d_K_regrow_85 rfl ?_
  refine ab_iload (i := 5) d_K_regrow_87 rfl ?_
  refine ab_aload_n (i := 0) d_K_regrow_89 rfl rfl ?_
  refine ab_getR (ci := 10) (k := 6) (j := kx_forest) d_K_regrow_90 v_478 rfl (by decide) (by decide) rfl r_kx_6 ?_
  refine ab_getI (ci := 2) (k := 3) d_K_regrow_93 v_337 rfl (by decide) (by decide) rfl ?_
  obtain ⟨I2, hC, h⟩ := h
  refine ab_callV (me2 := mt_Swaps_tell) (b := kx_now_swaps) (as := [.int v1, .int v2, .int v4, .int v5, .int (I kx_forest 3)]) (st := []) (rv := none) (M2 := (I2, L, ab_RR, n, nc, ns)) d_K_regrow_96 ce_Swaps_tell v_602 v_603 v_604 (by decide) rfl (Nat.le_of_ble_eq_true rfl) hC (Nat.le_refl _) (Nat.le_refl _) hc hs (fun j h9 => by cases h9) (fun _ _ => rfl) ?_
  show ab_E w (d + 1) mt_K_regrow 99 [.ref kx, .int v1, .int v2, .int v3, .int v4, .int v5] [] (I2, L, ab_RR, n, nc, ns) res
  exact h
theorem q_K_regrow_99 {w : ab_Wd} {d n nc ns : Nat} {I : Nat → Nat → Int32} {L : Nat → Nat → Int64} {res : ab_Re} (v1 : Int32) (v2 : Int32) (v3 : Int32) (v4 : Int32) (v5 : Int32) (hc : nc ≤ res.2.2.2.2.2.1) (hs : ns ≤ res.2.2.2.2.2.2)
    (h : res = (.inl none, (I, L, ab_RR, n, nc, ns))) : ab_E w (d + 1) mt_K_regrow 99 [.ref kx, .int v1, .int v2, .int v3, .int v4, .int v5] [] (I, L, ab_RR, n, nc, ns) res := by
  exact ab_vret d_K_regrow_99 rfl h
theorem d_K_isInside_0 : decode (ab_bc mt_K_isInside) 0 = .ok (.aload_n 0, 1) := by decide +kernel
theorem d_K_isInside_1 : decode (ab_bc mt_K_isInside) 1 = .ok (.getfield 37, 3) := by decide +kernel
theorem d_K_isInside_4 : decode (ab_bc mt_K_isInside) 4 = .ok (.getfield 122, 3) := by decide +kernel
theorem d_K_isInside_7 : decode (ab_bc mt_K_isInside) 7 = .ok (.iload_n 1, 1) := by decide +kernel
theorem d_K_isInside_8 : decode (ab_bc mt_K_isInside) 8 = .ok (.ishr, 1) := by decide +kernel
theorem d_K_isInside_9 : decode (ab_bc mt_K_isInside) 9 = .ok (.iconst 1, 1) := by decide +kernel
theorem d_K_isInside_10 : decode (ab_bc mt_K_isInside) 10 = .ok (.iand, 1) := by decide +kernel
theorem d_K_isInside_11 : decode (ab_bc mt_K_isInside) 11 = .ok (.iconst 1, 1) := by decide +kernel
theorem d_K_isInside_12 : decode (ab_bc mt_K_isInside) 12 = .ok (.if_icmp .ne 7, 3) := by decide +kernel
theorem d_K_isInside_15 : decode (ab_bc mt_K_isInside) 15 = .ok (.iconst 1, 1) := by decide +kernel
theorem d_K_isInside_16 : decode (ab_bc mt_K_isInside) 16 = .ok (.goto 4, 3) := by decide +kernel
theorem d_K_isInside_19 : decode (ab_bc mt_K_isInside) 19 = .ok (.iconst 0, 1) := by decide +kernel
theorem d_K_isInside_20 : decode (ab_bc mt_K_isInside) 20 = .ok (.ireturn, 1) := by decide +kernel
-- CableKeeper.isInside(I)Z over kx
theorem q_K_isInside_0 {w : ab_Wd} {d n nc ns : Nat} {I : Nat → Nat → Int32} {L : Nat → Nat → Int64} {res : ab_Re} (v1 : Int32) (hc : nc ≤ res.2.2.2.2.2.1) (hs : ns ≤ res.2.2.2.2.2.2)
    (h : ((¬ (((I kx_forest 2) >>> (v1 &&& 31)) &&& 1) = 1 → (ab_E w d mt_K_isInside 20 [.ref kx, .int v1] [.int 0] (I, L, ab_RR, n, nc, ns) res)) ∧ ((((I kx_forest 2) >>> (v1 &&& 31)) &&& 1) = 1 → (ab_E w d mt_K_isInside 20 [.ref kx, .int v1] [.int 1] (I, L, ab_RR, n, nc, ns) res)))) : ab_E w d mt_K_isInside 0 [.ref kx, .int v1] [] (I, L, ab_RR, n, nc, ns) res := by
  refine ab_aload_n (i := 0) d_K_isInside_0 rfl rfl ?_
  refine ab_getR (ci := 10) (k := 6) (j := kx_forest) d_K_isInside_1 v_478 rfl (by decide) (by decide) rfl r_kx_6 ?_
  refine ab_getI (ci := 2) (k := 2) d_K_isInside_4 v_335 rfl (by decide) (by decide) rfl ?_
  refine ab_iload_n (i := 1) d_K_isInside_7 rfl rfl ?_
  refine ab_ishr d_K_isInside_8 ?_
  refine ab_iconst (v := 1) d_K_isInside_9 rfl ?_
  refine ab_iand d_K_isInside_10 ?_
  refine ab_iconst (v := 1) d_K_isInside_11 rfl ?_
  refine ab_icmp_ne (tgt := 19) d_K_isInside_12 (by decide) (fun c1 => ?_) (fun c1 => ?_)
  · have h := h.1 c1
    refine ab_iconst (v := 0) d_K_isInside_19 rfl ?_
    exact h
  · have h := h.2 c1
    refine ab_iconst (v := 1) d_K_isInside_15 rfl ?_
    refine ab_goto (tgt := 20) d_K_isInside_16 (by decide) ?_
    exact h
theorem q_K_isInside_20 {w : ab_Wd} {d n nc ns : Nat} {I : Nat → Nat → Int32} {L : Nat → Nat → Int64} {res : ab_Re} (v1 : Int32) (s0 : Int32) (hc : nc ≤ res.2.2.2.2.2.1) (hs : ns ≤ res.2.2.2.2.2.2)
    (h : (narrow .boolean (.int s0) = .int s0) ∧ res = (.inl (some (.int s0)), (I, L, ab_RR, n, nc, ns))) : ab_E w d mt_K_isInside 20 [.ref kx, .int v1] [.int s0] (I, L, ab_RR, n, nc, ns) res := by
  have g := h.1; have h := h.2
  exact ab_iret (ty := .boolean) d_K_isInside_20 rfl g h
theorem d_K_isOutside_0 : decode (ab_bc mt_K_isOutside) 0 = .ok (.aload_n 0, 1) := by decide +kernel
theorem d_K_isOutside_1 : decode (ab_bc mt_K_isOutside) 1 = .ok (.getfield 23, 3) := by decide +kernel
theorem d_K_isOutside_4 : decode (ab_bc mt_K_isOutside) 4 = .ok (.getfield 110, 3) := by decide +kernel
theorem d_K_isOutside_7 : decode (ab_bc mt_K_isOutside) 7 = .ok (.iload_n 1, 1) := by decide +kernel
theorem d_K_isOutside_8 : decode (ab_bc mt_K_isOutside) 8 = .ok (.invokevirtual 201, 3) := by decide +kernel
theorem d_K_isOutside_11 : decode (ab_bc mt_K_isOutside) 11 = .ok (.ifCond .eq 15, 3) := by decide +kernel
theorem d_K_isOutside_14 : decode (ab_bc mt_K_isOutside) 14 = .ok (.aload_n 0, 1) := by decide +kernel
theorem d_K_isOutside_15 : decode (ab_bc mt_K_isOutside) 15 = .ok (.iload_n 1, 1) := by decide +kernel
theorem d_K_isOutside_16 : decode (ab_bc mt_K_isOutside) 16 = .ok (.invokevirtual 205, 3) := by decide +kernel
theorem d_K_isOutside_19 : decode (ab_bc mt_K_isOutside) 19 = .ok (.ifCond .ne 7, 3) := by decide +kernel
theorem d_K_isOutside_22 : decode (ab_bc mt_K_isOutside) 22 = .ok (.iconst 1, 1) := by decide +kernel
theorem d_K_isOutside_23 : decode (ab_bc mt_K_isOutside) 23 = .ok (.goto 4, 3) := by decide +kernel
theorem d_K_isOutside_26 : decode (ab_bc mt_K_isOutside) 26 = .ok (.iconst 0, 1) := by decide +kernel
theorem d_K_isOutside_27 : decode (ab_bc mt_K_isOutside) 27 = .ok (.ireturn, 1) := by decide +kernel
-- CableKeeper.isOutside(I)Z over kx
theorem q_K_isOutside_0 {w : ab_Wd} {d n nc ns : Nat} {I : Nat → Nat → Int32} {L : Nat → Nat → Int64} {res : ab_Re} (v1 : Int32) (hc : nc ≤ res.2.2.2.2.2.1) (hs : ns ≤ res.2.2.2.2.2.2)
    (h : ∃ (r1 : Int32), ab_C w d mt_Cables_isSound [.ref kx_now_cables, .int v1] (I, L, ab_RR, n, nc, ns) (.inl (some (.int r1)), (I, L, ab_RR, n, nc, ns)) ∧ ((r1 = 0 → (ab_E w (d + 1) mt_K_isOutside 26 [.ref kx, .int v1] [] (I, L, ab_RR, n, nc, ns) res)) ∧ (¬ r1 = 0 → (∃ (r3 : Int32), ab_C w d mt_K_isInside [.ref kx, .int v1] (I, L, ab_RR, n, nc, ns) (.inl (some (.int r3)), (I, L, ab_RR, n, nc, ns)) ∧ ((¬ r3 = 0 → (ab_E w (d + 1) mt_K_isOutside 26 [.ref kx, .int v1] [] (I, L, ab_RR, n, nc, ns) res)) ∧ (r3 = 0 → (ab_E w (d + 1) mt_K_isOutside 27 [.ref kx, .int v1] [.int 1] (I, L, ab_RR, n, nc, ns) res))))))) : ab_E w (d + 1) mt_K_isOutside 0 [.ref kx, .int v1] [] (I, L, ab_RR, n, nc, ns) res := by
  refine ab_aload_n (i := 0) d_K_isOutside_0 rfl rfl ?_
  refine ab_getR (ci := 10) (k := 3) (j := kx_now) d_K_isOutside_1 v_475 rfl (by decide) (by decide) rfl r_kx_3 ?_
  refine ab_getR (ci := 6) (k := 0) (j := kx_now_cables) d_K_isOutside_4 v_294 rfl (by decide) (by decide) rfl r_kx_now_0 ?_
  refine ab_iload_n (i := 1) d_K_isOutside_7 rfl rfl ?_
  obtain ⟨r1, hC, h⟩ := h
  refine ab_callV (me2 := mt_Cables_isSound) (b := kx_now_cables) (as := [.int v1]) (st := []) (rv := (some (.int r1))) (M2 := (I, L, ab_RR, n, nc, ns)) d_K_isOutside_8 ce_Cables_isSound v_624 v_540 v_541 (by decide) rfl (Nat.le_of_ble_eq_true rfl) hC (Nat.le_refl _) (Nat.le_refl _) hc hs (fun j h9 => by cases h9) (fun _ _ => rfl) ?_
  show ab_E w (d + 1) mt_K_isOutside 11 [.ref kx, .int v1] [.int r1] (I, L, ab_RR, n, nc, ns) res
  refine ab_if_eq (tgt := 26) d_K_isOutside_11 (by decide) (fun c2 => ?_) (fun c2 => ?_)
  · have h := h.1 c2
    exact h
  · have h := h.2 c2
    refine ab_aload_n (i := 0) d_K_isOutside_14 rfl rfl ?_
    refine ab_iload_n (i := 1) d_K_isOutside_15 rfl rfl ?_
    obtain ⟨r3, hC, h⟩ := h
    refine ab_callV (me2 := mt_K_isInside) (b := kx) (as := [.int v1]) (st := []) (rv := (some (.int r3))) (M2 := (I, L, ab_RR, n, nc, ns)) d_K_isOutside_16 ce_K_isInside v_944 v_946 v_30 (by decide) rfl (Nat.le_of_ble_eq_true rfl) hC (Nat.le_refl _) (Nat.le_refl _) hc hs (fun j h9 => by cases h9) (fun _ _ => rfl) ?_
    show ab_E w (d + 1) mt_K_isOutside 19 [.ref kx, .int v1] [.int r3] (I, L, ab_RR, n, nc, ns) res
    refine ab_if_ne (tgt := 26) d_K_isOutside_19 (by decide) (fun c4 => ?_) (fun c4 => ?_)
    · have h := h.1 c4
      exact h
    · have h := h.2 c4
      refine ab_iconst (v := 1) d_K_isOutside_22 rfl ?_
      refine ab_goto (tgt := 27) d_K_isOutside_23 (by decide) ?_
      exact h
theorem q_K_isOutside_26 {w : ab_Wd} {d n nc ns : Nat} {I : Nat → Nat → Int32} {L : Nat → Nat → Int64} {res : ab_Re} (v1 : Int32) (hc : nc ≤ res.2.2.2.2.2.1) (hs : ns ≤ res.2.2.2.2.2.2)
    (h : ab_E w (d + 1) mt_K_isOutside 27 [.ref kx, .int v1] [.int 0] (I, L, ab_RR, n, nc, ns) res) : ab_E w (d + 1) mt_K_isOutside 26 [.ref kx, .int v1] [] (I, L, ab_RR, n, nc, ns) res := by
  refine ab_iconst (v := 0) d_K_isOutside_26 rfl ?_
  exact h
theorem q_K_isOutside_27 {w : ab_Wd} {d n nc ns : Nat} {I : Nat → Nat → Int32} {L : Nat → Nat → Int64} {res : ab_Re} (v1 : Int32) (s0 : Int32) (hc : nc ≤ res.2.2.2.2.2.1) (hs : ns ≤ res.2.2.2.2.2.2)
    (h : (narrow .boolean (.int s0) = .int s0) ∧ res = (.inl (some (.int s0)), (I, L, ab_RR, n, nc, ns))) : ab_E w (d + 1) mt_K_isOutside 27 [.ref kx, .int v1] [.int s0] (I, L, ab_RR, n, nc, ns) res := by
  have g := h.1; have h := h.2
  exact ab_iret (ty := .boolean) d_K_isOutside_27 rfl g h
theorem d_K_ringSize_0 : decode (ab_bc mt_K_ringSize) 0 = .ok (.aload_n 0, 1) := by decide +kernel
theorem d_K_ringSize_1 : decode (ab_bc mt_K_ringSize) 1 = .ok (.iload_n 1, 1) := by decide +kernel
theorem d_K_ringSize_2 : decode (ab_bc mt_K_ringSize) 2 = .ok (.invokevirtual 414, 3) := by decide +kernel
theorem d_K_ringSize_5 : decode (ab_bc mt_K_ringSize) 5 = .ok (.ifCond .ne 5, 3) := by decide +kernel
theorem d_K_ringSize_8 : decode (ab_bc mt_K_ringSize) 8 = .ok (.iconst 0, 1) := by decide +kernel
theorem d_K_ringSize_9 : decode (ab_bc mt_K_ringSize) 9 = .ok (.ireturn, 1) := by decide +kernel
theorem d_K_ringSize_10 : decode (ab_bc mt_K_ringSize) 10 = .ok (.aload_n 0, 1) := by decide +kernel
theorem d_K_ringSize_11 : decode (ab_bc mt_K_ringSize) 11 = .ok (.getfield 44, 3) := by decide +kernel
theorem d_K_ringSize_14 : decode (ab_bc mt_K_ringSize) 14 = .ok (.aload_n 0, 1) := by decide +kernel
theorem d_K_ringSize_15 : decode (ab_bc mt_K_ringSize) 15 = .ok (.getfield 23, 3) := by decide +kernel
theorem d_K_ringSize_18 : decode (ab_bc mt_K_ringSize) 18 = .ok (.getfield 110, 3) := by decide +kernel
theorem d_K_ringSize_21 : decode (ab_bc mt_K_ringSize) 21 = .ok (.getfield 189, 3) := by decide +kernel
theorem d_K_ringSize_24 : decode (ab_bc mt_K_ringSize) 24 = .ok (.iload_n 1, 1) := by decide +kernel
theorem d_K_ringSize_25 : decode (ab_bc mt_K_ringSize) 25 = .ok (.iaload, 1) := by decide +kernel
theorem d_K_ringSize_26 : decode (ab_bc mt_K_ringSize) 26 = .ok (.aload_n 0, 1) := by decide +kernel
theorem d_K_ringSize_27 : decode (ab_bc mt_K_ringSize) 27 = .ok (.getfield 23, 3) := by decide +kernel
theorem d_K_ringSize_30 : decode (ab_bc mt_K_ringSize) 30 = .ok (.getfield 110, 3) := by decide +kernel
theorem d_K_ringSize_33 : decode (ab_bc mt_K_ringSize) 33 = .ok (.getfield 192, 3) := by decide +kernel
theorem d_K_ringSize_36 : decode (ab_bc mt_K_ringSize) 36 = .ok (.iload_n 1, 1) := by decide +kernel
theorem d_K_ringSize_37 : decode (ab_bc mt_K_ringSize) 37 = .ok (.iaload, 1) := by decide +kernel
theorem d_K_ringSize_38 : decode (ab_bc mt_K_ringSize) 38 = .ok (.invokevirtual 257, 3) := by decide +kernel
theorem d_K_ringSize_41 : decode (ab_bc mt_K_ringSize) 41 = .ok (.ireturn, 1) := by decide +kernel
-- CableKeeper.ringSize(I)I over kx
theorem q_K_ringSize_0 {w : ab_Wd} {d n nc ns : Nat} {I : Nat → Nat → Int32} {L : Nat → Nat → Int64} {res : ab_Re} (v1 : Int32) (hc : nc ≤ res.2.2.2.2.2.1) (hs : ns ≤ res.2.2.2.2.2.2)
    (h : ∃ (r1 : Int32), ab_C w d mt_K_isOutside [.ref kx, .int v1] (I, L, ab_RR, n, nc, ns) (.inl (some (.int r1)), (I, L, ab_RR, n, nc, ns)) ∧ ((¬ r1 = 0 → ((vp_in v1 24) ∧ ∃ (r4 : Int32), ab_C w d mt_Ways_cablesBetween [.ref kx_ways, .int (I kx_now_cables_first v1.toNatClampNeg), .int (I kx_now_cables_second v1.toNatClampNeg)] (I, L, ab_RR, n, nc, ns) (.inl (some (.int r4)), (I, L, ab_RR, n, nc, ns)) ∧ res = (.inl (some (.int r4)), (I, L, ab_RR, n, nc, ns)))) ∧ (r1 = 0 → (res = (.inl (some (.int 0)), (I, L, ab_RR, n, nc, ns)))))) : ab_E w (d + 1) mt_K_ringSize 0 [.ref kx, .int v1] [] (I, L, ab_RR, n, nc, ns) res := by
  refine ab_aload_n (i := 0) d_K_ringSize_0 rfl rfl ?_
  refine ab_iload_n (i := 1) d_K_ringSize_1 rfl rfl ?_
  obtain ⟨r1, hC, h⟩ := h
  refine ab_callV (me2 := mt_K_isOutside) (b := kx) (as := [.int v1]) (st := []) (rv := (some (.int r1))) (M2 := (I, L, ab_RR, n, nc, ns)) d_K_ringSize_2 ce_K_isOutside v_940 v_942 v_29 (by decide) rfl (Nat.le_of_ble_eq_true rfl) hC (Nat.le_refl _) (Nat.le_refl _) hc hs (fun j h9 => by cases h9) (fun _ _ => rfl) ?_
  show ab_E w (d + 1) mt_K_ringSize 5 [.ref kx, .int v1] [.int r1] (I, L, ab_RR, n, nc, ns) res
  refine ab_if_ne (tgt := 10) d_K_ringSize_5 (by decide) (fun c2 => ?_) (fun c2 => ?_)
  · have h := h.1 c2
    refine ab_aload_n (i := 0) d_K_ringSize_10 rfl rfl ?_
    refine ab_getR (ci := 10) (k := 7) (j := kx_ways) d_K_ringSize_11 v_479 rfl (by decide) (by decide) rfl r_kx_7 ?_
    refine ab_aload_n (i := 0) d_K_ringSize_14 rfl rfl ?_
    refine ab_getR (ci := 10) (k := 3) (j := kx_now) d_K_ringSize_15 v_475 rfl (by decide) (by decide) rfl r_kx_3 ?_
    refine ab_getR (ci := 6) (k := 0) (j := kx_now_cables) d_K_ringSize_18 v_294 rfl (by decide) (by decide) rfl r_kx_now_0 ?_
    refine ab_getR (ci := 1) (k := 3) (j := kx_now_cables_first) d_K_ringSize_21 v_209 rfl (by decide) (by decide) rfl r_kx_now_cables_3 ?_
    refine ab_iload_n (i := 1) d_K_ringSize_24 rfl rfl ?_
    have g3 := h.1; have h := h.2
    refine ab_iald d_K_ringSize_25 rfl rfl g3 ?_
    refine ab_aload_n (i := 0) d_K_ringSize_26 rfl rfl ?_
    refine ab_getR (ci := 10) (k := 3) (j := kx_now) d_K_ringSize_27 v_475 rfl (by decide) (by decide) rfl r_kx_3 ?_
    refine ab_getR (ci := 6) (k := 0) (j := kx_now_cables) d_K_ringSize_30 v_294 rfl (by decide) (by decide) rfl r_kx_now_0 ?_
    refine ab_getR (ci := 1) (k := 4) (j := kx_now_cables_second) d_K_ringSize_33 v_216 rfl (by decide) (by decide) rfl r_kx_now_cables_4 ?_
    refine ab_iload_n (i := 1) d_K_ringSize_36 rfl rfl ?_
    refine ab_iald d_K_ringSize_37 rfl rfl g3 ?_
    obtain ⟨r4, hC, h⟩ := h
    refine ab_callV (me2 := mt_Ways_cablesBetween) (b := kx_ways) (as := [.int (I kx_now_cables_first v1.toNatClampNeg), .int (I kx_now_cables_second v1.toNatClampNeg)]) (st := []) (rv := (some (.int r4))) (M2 := (I, L, ab_RR, n, nc, ns)) d_K_ringSize_38 ce_Ways_cablesBetween v_1079 v_1080 v_1081 (by decide) rfl (Nat.le_of_ble_eq_true rfl) hC (Nat.le_refl _) (Nat.le_refl _) hc hs (fun j h9 => by cases h9) (fun _ _ => rfl) ?_
    show ab_E w (d + 1) mt_K_ringSize 41 [.ref kx, .int v1] [.int r4] (I, L, ab_RR, n, nc, ns) res
    exact ab_iret (ty := .int) d_K_ringSize_41 rfl rfl h
  · have h := h.2 c2
    refine ab_iconst (v := 0) d_K_ringSize_8 rfl ?_
    exact ab_iret (ty := .int) d_K_ringSize_9 rfl rfl h
theorem d_K_dearestOf_0 : decode (ab_bc mt_K_dearestOf) 0 = .ok (.aload_n 0, 1) := by decide +kernel
theorem d_K_dearestOf_1 : decode (ab_bc mt_K_dearestOf) 1 = .ok (.iload_n 1, 1) := by decide +kernel
theorem d_K_dearestOf_2 : decode (ab_bc mt_K_dearestOf) 2 = .ok (.invokevirtual 414, 3) := by decide +kernel
theorem d_K_dearestOf_5 : decode (ab_bc mt_K_dearestOf) 5 = .ok (.ifCond .ne 5, 3) := by decide +kernel
theorem d_K_dearestOf_8 : decode (ab_bc mt_K_dearestOf) 8 = .ok (.iconst (-1), 1) := by decide +kernel
theorem d_K_dearestOf_9 : decode (ab_bc mt_K_dearestOf) 9 = .ok (.ireturn, 1) := by decide +kernel
theorem d_K_dearestOf_10 : decode (ab_bc mt_K_dearestOf) 10 = .ok (.aload_n 0, 1) := by decide +kernel
theorem d_K_dearestOf_11 : decode (ab_bc mt_K_dearestOf) 11 = .ok (.getfield 44, 3) := by decide +kernel
theorem d_K_dearestOf_14 : decode (ab_bc mt_K_dearestOf) 14 = .ok (.aload_n 0, 1) := by decide +kernel
theorem d_K_dearestOf_15 : decode (ab_bc mt_K_dearestOf) 15 = .ok (.getfield 23, 3) := by decide +kernel
theorem d_K_dearestOf_18 : decode (ab_bc mt_K_dearestOf) 18 = .ok (.getfield 110, 3) := by decide +kernel
theorem d_K_dearestOf_21 : decode (ab_bc mt_K_dearestOf) 21 = .ok (.getfield 189, 3) := by decide +kernel
theorem d_K_dearestOf_24 : decode (ab_bc mt_K_dearestOf) 24 = .ok (.iload_n 1, 1) := by decide +kernel
theorem d_K_dearestOf_25 : decode (ab_bc mt_K_dearestOf) 25 = .ok (.iaload, 1) := by decide +kernel
theorem d_K_dearestOf_26 : decode (ab_bc mt_K_dearestOf) 26 = .ok (.aload_n 0, 1) := by decide +kernel
theorem d_K_dearestOf_27 : decode (ab_bc mt_K_dearestOf) 27 = .ok (.getfield 23, 3) := by decide +kernel
theorem d_K_dearestOf_30 : decode (ab_bc mt_K_dearestOf) 30 = .ok (.getfield 110, 3) := by decide +kernel
theorem d_K_dearestOf_33 : decode (ab_bc mt_K_dearestOf) 33 = .ok (.getfield 192, 3) := by decide +kernel
theorem d_K_dearestOf_36 : decode (ab_bc mt_K_dearestOf) 36 = .ok (.iload_n 1, 1) := by decide +kernel
theorem d_K_dearestOf_37 : decode (ab_bc mt_K_dearestOf) 37 = .ok (.iaload, 1) := by decide +kernel
theorem d_K_dearestOf_38 : decode (ab_bc mt_K_dearestOf) 38 = .ok (.invokevirtual 417, 3) := by decide +kernel
theorem d_K_dearestOf_41 : decode (ab_bc mt_K_dearestOf) 41 = .ok (.ireturn, 1) := by decide +kernel
-- CableKeeper.dearestOf(I)I over kx
theorem q_K_dearestOf_0 {w : ab_Wd} {d n nc ns : Nat} {I : Nat → Nat → Int32} {L : Nat → Nat → Int64} {res : ab_Re} (v1 : Int32) (hc : nc ≤ res.2.2.2.2.2.1) (hs : ns ≤ res.2.2.2.2.2.2)
    (h : ∃ (r1 : Int32), ab_C w d mt_K_isOutside [.ref kx, .int v1] (I, L, ab_RR, n, nc, ns) (.inl (some (.int r1)), (I, L, ab_RR, n, nc, ns)) ∧ ((¬ r1 = 0 → ((vp_in v1 24) ∧ ∃ (r4 : Int32), ab_C w d mt_Ways_dearestCable [.ref kx_ways, .int (I kx_now_cables_first v1.toNatClampNeg), .int (I kx_now_cables_second v1.toNatClampNeg)] (I, L, ab_RR, n, nc, ns) (.inl (some (.int r4)), (I, L, ab_RR, n, nc, ns)) ∧ res = (.inl (some (.int r4)), (I, L, ab_RR, n, nc, ns)))) ∧ (r1 = 0 → (res = (.inl (some (.int (-1))), (I, L, ab_RR, n, nc, ns)))))) : ab_E w (d + 1) mt_K_dearestOf 0 [.ref kx, .int v1] [] (I, L, ab_RR, n, nc, ns) res := by
  refine ab_aload_n (i := 0) d_K_dearestOf_0 rfl rfl ?_
  refine ab_iload_n (i := 1) d_K_dearestOf_1 rfl rfl ?_
  obtain ⟨r1, hC, h⟩ := h
  refine ab_callV (me2 := mt_K_isOutside) (b := kx) (as := [.int v1]) (st := []) (rv := (some (.int r1))) (M2 := (I, L, ab_RR, n, nc, ns)) d_K_dearestOf_2 ce_K_isOutside v_940 v_942 v_29 (by decide) rfl (Nat.le_of_ble_eq_true rfl) hC (Nat.le_refl _) (Nat.le_refl _) hc hs (fun j h9 => by cases h9) (fun _ _ => rfl) ?_
  show ab_E w (d + 1) mt_K_dearestOf 5 [.ref kx, .int v1] [.int r1] (I, L, ab_RR, n, nc, ns) res
  refine ab_if_ne (tgt := 10) d_K_dearestOf_5 (by decide) (fun c2 => ?_) (fun c2 => ?_)
  · have h := h.1 c2
    refine ab_aload_n (i := 0) d_K_dearestOf_10 rfl rfl ?_
    refine ab_getR (ci := 10) (k := 7) (j := kx_ways) d_K_dearestOf_11 v_479 rfl (by decide) (by decide) rfl r_kx_7 ?_
    refine ab_aload_n (i := 0) d_K_dearestOf_14 rfl rfl ?_
    refine ab_getR (ci := 10) (k := 3) (j := kx_now) d_K_dearestOf_15 v_475 rfl (by decide) (by decide) rfl r_kx_3 ?_
    refine ab_getR (ci := 6) (k := 0) (j := kx_now_cables) d_K_dearestOf_18 v_294 rfl (by decide) (by decide) rfl r_kx_now_0 ?_
    refine ab_getR (ci := 1) (k := 3) (j := kx_now_cables_first) d_K_dearestOf_21 v_209 rfl (by decide) (by decide) rfl r_kx_now_cables_3 ?_
    refine ab_iload_n (i := 1) d_K_dearestOf_24 rfl rfl ?_
    have g3 := h.1; have h := h.2
    refine ab_iald d_K_dearestOf_25 rfl rfl g3 ?_
    refine ab_aload_n (i := 0) d_K_dearestOf_26 rfl rfl ?_
    refine ab_getR (ci := 10) (k := 3) (j := kx_now) d_K_dearestOf_27 v_475 rfl (by decide) (by decide) rfl r_kx_3 ?_
    refine ab_getR (ci := 6) (k := 0) (j := kx_now_cables) d_K_dearestOf_30 v_294 rfl (by decide) (by decide) rfl r_kx_now_0 ?_
    refine ab_getR (ci := 1) (k := 4) (j := kx_now_cables_second) d_K_dearestOf_33 v_216 rfl (by decide) (by decide) rfl r_kx_now_cables_4 ?_
    refine ab_iload_n (i := 1) d_K_dearestOf_36 rfl rfl ?_
    refine ab_iald d_K_dearestOf_37 rfl rfl g3 ?_
    obtain ⟨r4, hC, h⟩ := h
    refine ab_callV (me2 := mt_Ways_dearestCable) (b := kx_ways) (as := [.int (I kx_now_cables_first v1.toNatClampNeg), .int (I kx_now_cables_second v1.toNatClampNeg)]) (st := []) (rv := (some (.int r4))) (M2 := (I, L, ab_RR, n, nc, ns)) d_K_dearestOf_38 ce_Ways_dearestCable v_948 v_949 v_950 (by decide) rfl (Nat.le_of_ble_eq_true rfl) hC (Nat.le_refl _) (Nat.le_refl _) hc hs (fun j h9 => by cases h9) (fun _ _ => rfl) ?_
    show ab_E w (d + 1) mt_K_dearestOf 41 [.ref kx, .int v1] [.int r4] (I, L, ab_RR, n, nc, ns) res
    exact ab_iret (ty := .int) d_K_dearestOf_41 rfl rfl h
  · have h := h.2 c2
    refine ab_iconst (v := (-1)) d_K_dearestOf_8 rfl ?_
    exact ab_iret (ty := .int) d_K_dearestOf_9 rfl rfl h
theorem d_K_cutOf_0 : decode (ab_bc mt_K_cutOf) 0 = .ok (.aload_n 0, 1) := by decide +kernel
theorem d_K_cutOf_1 : decode (ab_bc mt_K_cutOf) 1 = .ok (.iload_n 1, 1) := by decide +kernel
theorem d_K_cutOf_2 : decode (ab_bc mt_K_cutOf) 2 = .ok (.invokevirtual 205, 3) := by decide +kernel
theorem d_K_cutOf_5 : decode (ab_bc mt_K_cutOf) 5 = .ok (.ifCond .ne 5, 3) := by decide +kernel
theorem d_K_cutOf_8 : decode (ab_bc mt_K_cutOf) 8 = .ok (.iconst 0, 1) := by decide +kernel
theorem d_K_cutOf_9 : decode (ab_bc mt_K_cutOf) 9 = .ok (.ireturn, 1) := by decide +kernel
theorem d_K_cutOf_10 : decode (ab_bc mt_K_cutOf) 10 = .ok (.aload_n 0, 1) := by decide +kernel
theorem d_K_cutOf_11 : decode (ab_bc mt_K_cutOf) 11 = .ok (.getfield 23, 3) := by decide +kernel
theorem d_K_cutOf_14 : decode (ab_bc mt_K_cutOf) 14 = .ok (.getfield 110, 3) := by decide +kernel
theorem d_K_cutOf_17 : decode (ab_bc mt_K_cutOf) 17 = .ok (.getfield 189, 3) := by decide +kernel
theorem d_K_cutOf_20 : decode (ab_bc mt_K_cutOf) 20 = .ok (.iload_n 1, 1) := by decide +kernel
theorem d_K_cutOf_21 : decode (ab_bc mt_K_cutOf) 21 = .ok (.iaload, 1) := by decide +kernel
theorem d_K_cutOf_22 : decode (ab_bc mt_K_cutOf) 22 = .ok (.istore_n 2, 1) := by decide +kernel
theorem d_K_cutOf_23 : decode (ab_bc mt_K_cutOf) 23 = .ok (.iconst 0, 1) := by decide +kernel
theorem d_K_cutOf_24 : decode (ab_bc mt_K_cutOf) 24 = .ok (.istore_n 3, 1) := by decide +kernel
theorem d_K_cutOf_25 : decode (ab_bc mt_K_cutOf) 25 = .ok (.iconst 0, 1) := by decide +kernel
theorem d_K_cutOf_26 : decode (ab_bc mt_K_cutOf) 26 = .ok (.istore 4, 2) := by decide +kernel
theorem d_K_cutOf_28 : decode (ab_bc mt_K_cutOf) 28 = .ok (.iload 4, 2) := by decide +kernel
theorem d_K_cutOf_30 : decode (ab_bc mt_K_cutOf) 30 = .ok (.aload_n 0, 1) := by decide +kernel
theorem d_K_cutOf_31 : decode (ab_bc mt_K_cutOf) 31 = .ok (.getfield 23, 3) := by decide +kernel
theorem d_K_cutOf_34 : decode (ab_bc mt_K_cutOf) 34 = .ok (.getfield 110, 3) := by decide +kernel
theorem d_K_cutOf_37 : decode (ab_bc mt_K_cutOf) 37 = .ok (.getfield 113, 3) := by decide +kernel
theorem d_K_cutOf_40 : decode (ab_bc mt_K_cutOf) 40 = .ok (.if_icmp .ge 56, 3) := by decide +kernel
theorem d_K_cutOf_43 : decode (ab_bc mt_K_cutOf) 43 = .ok (.aload_n 0, 1) := by decide +kernel
theorem d_K_cutOf_44 : decode (ab_bc mt_K_cutOf) 44 = .ok (.getfield 44, 3) := by decide +kernel
theorem d_K_cutOf_47 : decode (ab_bc mt_K_cutOf) 47 = .ok (.iload_n 2, 1) := by decide +kernel
theorem d_K_cutOf_48 : decode (ab_bc mt_K_cutOf) 48 = .ok (.iload 4, 2) := by decide +kernel
theorem d_K_cutOf_50 : decode (ab_bc mt_K_cutOf) 50 = .ok (.invokevirtual 254, 3) := by decide +kernel
theorem d_K_cutOf_53 : decode (ab_bc mt_K_cutOf) 53 = .ok (.iconst (-1), 1) := by decide +kernel
theorem d_K_cutOf_54 : decode (ab_bc mt_K_cutOf) 54 = .ok (.if_icmp .eq 7, 3) := by decide +kernel
theorem d_K_cutOf_57 : decode (ab_bc mt_K_cutOf) 57 = .ok (.iconst 1, 1) := by decide +kernel
theorem d_K_cutOf_58 : decode (ab_bc mt_K_cutOf) 58 = .ok (.goto 4, 3) := by decide +kernel
theorem d_K_cutOf_61 : decode (ab_bc mt_K_cutOf) 61 = .ok (.iconst 0, 1) := by decide +kernel
theorem d_K_cutOf_62 : decode (ab_bc mt_K_cutOf) 62 = .ok (.istore 5, 2) := by decide +kernel
theorem d_K_cutOf_64 : decode (ab_bc mt_K_cutOf) 64 = .ok (.iload 5, 2) := by decide +kernel
theorem d_K_cutOf_66 : decode (ab_bc mt_K_cutOf) 66 = .ok (.ifCond .eq 24, 3) := by decide +kernel
theorem d_K_cutOf_69 : decode (ab_bc mt_K_cutOf) 69 = .ok (.aload_n 0, 1) := by decide +kernel
theorem d_K_cutOf_70 : decode (ab_bc mt_K_cutOf) 70 = .ok (.getfield 44, 3) := by decide +kernel
theorem d_K_cutOf_73 : decode (ab_bc mt_K_cutOf) 73 = .ok (.iload_n 2, 1) := by decide +kernel
theorem d_K_cutOf_74 : decode (ab_bc mt_K_cutOf) 74 = .ok (.iload 4, 2) := by decide +kernel
theorem d_K_cutOf_76 : decode (ab_bc mt_K_cutOf) 76 = .ok (.invokevirtual 226, 3) := by decide +kernel
theorem d_K_cutOf_79 : decode (ab_bc mt_K_cutOf) 79 = .ok (.iload_n 1, 1) := by decide +kernel
theorem d_K_cutOf_80 : decode (ab_bc mt_K_cutOf) 80 = .ok (.if_icmp .eq 10, 3) := by decide +kernel
theorem d_K_cutOf_83 : decode (ab_bc mt_K_cutOf) 83 = .ok (.iload_n 3, 1) := by decide +kernel
theorem d_K_cutOf_84 : decode (ab_bc mt_K_cutOf) 84 = .ok (.iconst 1, 1) := by decide +kernel
theorem d_K_cutOf_85 : decode (ab_bc mt_K_cutOf) 85 = .ok (.iload 4, 2) := by decide +kernel
theorem d_K_cutOf_87 : decode (ab_bc mt_K_cutOf) 87 = .ok (.ishl, 1) := by decide +kernel
theorem d_K_cutOf_88 : decode (ab_bc mt_K_cutOf) 88 = .ok (.ior, 1) := by decide +kernel
theorem d_K_cutOf_89 : decode (ab_bc mt_K_cutOf) 89 = .ok (.istore_n 3, 1) := by decide +kernel
theorem d_K_cutOf_90 : decode (ab_bc mt_K_cutOf) 90 = .ok (.iinc 4 1, 3) := by decide +kernel
theorem d_K_cutOf_93 : decode (ab_bc mt_K_cutOf) 93 = .ok (.goto (-65), 3) := by decide +kernel
theorem d_K_cutOf_96 : decode (ab_bc mt_K_cutOf) 96 = .ok (.iload_n 3, 1) := by decide +kernel
theorem d_K_cutOf_97 : decode (ab_bc mt_K_cutOf) 97 = .ok (.ireturn, 1) := by decide +kernel
-- CableKeeper.cutOf(I)I over kx
theorem q_K_cutOf_0 {w : ab_Wd} {d n nc ns : Nat} {I : Nat → Nat → Int32} {L : Nat → Nat → Int64} {res : ab_Re} (v1 : Int32) (hc : nc ≤ res.2.2.2.2.2.1) (hs : ns ≤ res.2.2.2.2.2.2)
    (h : ∃ (r1 : Int32), ab_C w d mt_K_isInside [.ref kx, .int v1] (I, L, ab_RR, n, nc, ns) (.inl (some (.int r1)), (I, L, ab_RR, n, nc, ns)) ∧ ((¬ r1 = 0 → ((vp_in v1 24) ∧ ab_E w (d + 1) mt_K_cutOf 28 [.ref kx, .int v1, .int (I kx_now_cables_first v1.toNatClampNeg), .int 0, .int 0, .null] [] (I, L, ab_RR, n, nc, ns) res)) ∧ (r1 = 0 → (res = (.inl (some (.int 0)), (I, L, ab_RR, n, nc, ns)))))) : ab_E w (d + 1) mt_K_cutOf 0 [.ref kx, .int v1, .null, .null, .null, .null] [] (I, L, ab_RR, n, nc, ns) res := by
  refine ab_aload_n (i := 0) d_K_cutOf_0 rfl rfl ?_
  refine ab_iload_n (i := 1) d_K_cutOf_1 rfl rfl ?_
  obtain ⟨r1, hC, h⟩ := h
  refine ab_callV (me2 := mt_K_isInside) (b := kx) (as := [.int v1]) (st := []) (rv := (some (.int r1))) (M2 := (I, L, ab_RR, n, nc, ns)) d_K_cutOf_2 ce_K_isInside v_944 v_946 v_30 (by decide) rfl (Nat.le_of_ble_eq_true rfl) hC (Nat.le_refl _) (Nat.le_refl _) hc hs (fun j h9 => by cases h9) (fun _ _ => rfl) ?_
  show ab_E w (d + 1) mt_K_cutOf 5 [.ref kx, .int v1, .null, .null, .null, .null] [.int r1] (I, L, ab_RR, n, nc, ns) res
  refine ab_if_ne (tgt := 10) d_K_cutOf_5 (by decide) (fun c2 => ?_) (fun c2 => ?_)
  · have h := h.1 c2
    refine ab_aload_n (i := 0) d_K_cutOf_10 rfl rfl ?_
    refine ab_getR (ci := 10) (k := 3) (j := kx_now) d_K_cutOf_11 v_475 rfl (by decide) (by decide) rfl r_kx_3 ?_
    refine ab_getR (ci := 6) (k := 0) (j := kx_now_cables) d_K_cutOf_14 v_294 rfl (by decide) (by decide) rfl r_kx_now_0 ?_
    refine ab_getR (ci := 1) (k := 3) (j := kx_now_cables_first) d_K_cutOf_17 v_209 rfl (by decide) (by decide) rfl r_kx_now_cables_3 ?_
    refine ab_iload_n (i := 1) d_K_cutOf_20 rfl rfl ?_
    have g3 := h.1; have h := h.2
    refine ab_iald d_K_cutOf_21 rfl rfl g3 ?_
    refine ab_istore_n (i := 2) d_K_cutOf_22 rfl (by decide) (Or.inr rfl) ?_
    refine ab_iconst (v := 0) d_K_cutOf_23 rfl ?_
    refine ab_istore_n (i := 3) d_K_cutOf_24 rfl (by decide) (Or.inr rfl) ?_
    refine ab_iconst (v := 0) d_K_cutOf_25 rfl ?_
    refine ab_istore (i := 4) d_K_cutOf_26 (by decide) (Or.inr rfl) ?_
    exact h
  · have h := h.2 c2
    refine ab_iconst (v := 0) d_K_cutOf_8 rfl ?_
    exact ab_iret (ty := .int) d_K_cutOf_9 rfl rfl h
theorem q_K_cutOf_28 {w : ab_Wd} {d n nc ns : Nat} {I : Nat → Nat → Int32} {L : Nat → Nat → Int64} {res : ab_Re} (v1 : Int32) (v2 : Int32) (v3 : Int32) (v4 : Int32) (hc : nc ≤ res.2.2.2.2.2.1) (hs : ns ≤ res.2.2.2.2.2.2)
    (h : (((I kx_now_cables 0) ≤ v4 → (res = (.inl (some (.int v3)), (I, L, ab_RR, n, nc, ns)))) ∧ (¬ (I kx_now_cables 0) ≤ v4 → (∃ (r2 : Int32), ab_C w d mt_Ways_spanOf [.ref kx_ways, .int v2, .int v4] (I, L, ab_RR, n, nc, ns) (.inl (some (.int r2)), (I, L, ab_RR, n, nc, ns)) ∧ ((r2 = (-1) → (ab_E w (d + 1) mt_K_cutOf 62 [.ref kx, .int v1, .int v2, .int v3, .int v4, .null] [.int 0] (I, L, ab_RR, n, nc, ns) res)) ∧ (¬ r2 = (-1) → (ab_E w (d + 1) mt_K_cutOf 62 [.ref kx, .int v1, .int v2, .int v3, .int v4, .null] [.int 1] (I, L, ab_RR, n, nc, ns) res))))))) : ab_E w (d + 1) mt_K_cutOf 28 [.ref kx, .int v1, .int v2, .int v3, .int v4, .null] [] (I, L, ab_RR, n, nc, ns) res := by
  refine ab_iload (i := 4) d_K_cutOf_28 rfl ?_
  refine ab_aload_n (i := 0) d_K_cutOf_30 rfl rfl ?_
  refine ab_getR (ci := 10) (k := 3) (j := kx_now) d_K_cutOf_31 v_475 rfl (by decide) (by decide) rfl r_kx_3 ?_
  refine ab_getR (ci := 6) (k := 0) (j := kx_now_cables) d_K_cutOf_34 v_294 rfl (by decide) (by decide) rfl r_kx_now_0 ?_
  refine ab_getI (ci := 1) (k := 0) d_K_cutOf_37 v_190 rfl (by decide) (by decide) rfl ?_
  refine ab_icmp_ge (tgt := 96) d_K_cutOf_40 (by decide) (fun c1 => ?_) (fun c1 => ?_)
  · have h := h.1 c1
    refine ab_iload_n (i := 3) d_K_cutOf_96 rfl rfl ?_
    exact ab_iret (ty := .int) d_K_cutOf_97 rfl rfl h
  · have h := h.2 c1
    refine ab_aload_n (i := 0) d_K_cutOf_43 rfl rfl ?_
    refine ab_getR (ci := 10) (k := 7) (j := kx_ways) d_K_cutOf_44 v_479 rfl (by decide) (by decide) rfl r_kx_7 ?_
    refine ab_iload_n (i := 2) d_K_cutOf_47 rfl rfl ?_
    refine ab_iload (i := 4) d_K_cutOf_48 rfl ?_
    obtain ⟨r2, hC, h⟩ := h
    refine ab_callV (me2 := mt_Ways_spanOf) (b := kx_ways) (as := [.int v2, .int v4]) (st := []) (rv := (some (.int r2))) (M2 := (I, L, ab_RR, n, nc, ns)) d_K_cutOf_50 ce_Ways_spanOf v_1000 v_1001 v_1002 (by decide) rfl (Nat.le_of_ble_eq_true rfl) hC (Nat.le_refl _) (Nat.le_refl _) hc hs (fun j h9 => by cases h9) (fun _ _ => rfl) ?_
    show ab_E w (d + 1) mt_K_cutOf 53 [.ref kx, .int v1, .int v2, .int v3, .int v4, .null] [.int r2] (I, L, ab_RR, n, nc, ns) res
    refine ab_iconst (v := (-1)) d_K_cutOf_53 rfl ?_
    refine ab_icmp_eq (tgt := 61) d_K_cutOf_54 (by decide) (fun c3 => ?_) (fun c3 => ?_)
    · have h := h.1 c3
      refine ab_iconst (v := 0) d_K_cutOf_61 rfl ?_
      exact h
    · have h := h.2 c3
      refine ab_iconst (v := 1) d_K_cutOf_57 rfl ?_
      refine ab_goto (tgt := 62) d_K_cutOf_58 (by decide) ?_
      exact h
theorem q_K_cutOf_62 {w : ab_Wd} {d n nc ns : Nat} {I : Nat → Nat → Int32} {L : Nat → Nat → Int64} {res : ab_Re} (v1 : Int32) (v2 : Int32) (v3 : Int32) (v4 : Int32) (s0 : Int32) (hc : nc ≤ res.2.2.2.2.2.1) (hs : ns ≤ res.2.2.2.2.2.2)
    (h : ((s0 = 0 → (ab_E w (d + 1) mt_K_cutOf 90 [.ref kx, .int v1, .int v2, .int v3, .int v4, .int s0] [] (I, L, ab_RR, n, nc, ns) res)) ∧ (¬ s0 = 0 → (∃ (r2 : Int32), ab_C w d mt_Ways_firstCable [.ref kx_ways, .int v2, .int v4] (I, L, ab_RR, n, nc, ns) (.inl (some (.int r2)), (I, L, ab_RR, n, nc, ns)) ∧ ((r2 = v1 → (ab_E w (d + 1) mt_K_cutOf 90 [.ref kx, .int v1, .int v2, .int v3, .int v4, .int s0] [] (I, L, ab_RR, n, nc, ns) res)) ∧ (¬ r2 = v1 → (ab_E w (d + 1) mt_K_cutOf 90 [.ref kx, .int v1, .int v2, .int (v3 ||| ((1 : Int32) <<< (v4 &&& 31))), .int v4, .int s0] [] (I, L, ab_RR, n, nc, ns) res))))))) : ab_E w (d + 1) mt_K_cutOf 62 [.ref kx, .int v1, .int v2, .int v3, .int v4, .null] [.int s0] (I, L, ab_RR, n, nc, ns) res := by
  refine ab_istore (i := 5) d_K_cutOf_62 (by decide) (Or.inr rfl) ?_
  refine ab_iload (i := 5) d_K_cutOf_64 rfl ?_
  refine ab_if_eq (tgt := 90) d_K_cutOf_66 (by decide) (fun c1 => ?_) (fun c1 => ?_)
  · have h := h.1 c1
    exact h
  · have h := h.2 c1
    refine ab_aload_n (i := 0) d_K_cutOf_69 rfl rfl ?_
    refine ab_getR (ci := 10) (k := 7) (j := kx_ways) d_K_cutOf_70 v_479 rfl (by decide) (by decide) rfl r_kx_7 ?_
    refine ab_iload_n (i := 2) d_K_cutOf_73 rfl rfl ?_
    refine ab_iload (i := 4) d_K_cutOf_74 rfl ?_
    obtain ⟨r2, hC, h⟩ := h
    refine ab_callV (me2 := mt_Ways_firstCable) (b := kx_ways) (as := [.int v2, .int v4]) (st := []) (rv := (some (.int r2))) (M2 := (I, L, ab_RR, n, nc, ns)) d_K_cutOf_76 ce_Ways_firstCable v_1004 v_1005 v_1006 (by decide) rfl (Nat.le_of_ble_eq_true rfl) hC (Nat.le_refl _) (Nat.le_refl _) hc hs (fun j h9 => by cases h9) (fun _ _ => rfl) ?_
    show ab_E w (d + 1) mt_K_cutOf 79 [.ref kx, .int v1, .int v2, .int v3, .int v4, .int s0] [.int r2] (I, L, ab_RR, n, nc, ns) res
    refine ab_iload_n (i := 1) d_K_cutOf_79 rfl rfl ?_
    refine ab_icmp_eq (tgt := 90) d_K_cutOf_80 (by decide) (fun c3 => ?_) (fun c3 => ?_)
    · have h := h.1 c3
      exact h
    · have h := h.2 c3
      refine ab_iload_n (i := 3) d_K_cutOf_83 rfl rfl ?_
      refine ab_iconst (v := 1) d_K_cutOf_84 rfl ?_
      refine ab_iload (i := 4) d_K_cutOf_85 rfl ?_
      refine ab_ishl d_K_cutOf_87 ?_
      refine ab_ior d_K_cutOf_88 ?_
      refine ab_istore_n (i := 3) d_K_cutOf_89 rfl (by decide) (Or.inr rfl) ?_
      exact h
theorem q_K_cutOf_90 {w : ab_Wd} {d n nc ns : Nat} {I : Nat → Nat → Int32} {L : Nat → Nat → Int64} {res : ab_Re} (v1 : Int32) (v2 : Int32) (v3 : Int32) (v4 : Int32) (v5 : Int32) (hc : nc ≤ res.2.2.2.2.2.1) (hs : ns ≤ res.2.2.2.2.2.2)
    (h : ab_E w (d + 1) mt_K_cutOf 28 [.ref kx, .int v1, .int v2, .int v3, .int (v4 + 1), .null] [] (I, L, ab_RR, n, nc, ns) res) : ab_E w (d + 1) mt_K_cutOf 90 [.ref kx, .int v1, .int v2, .int v3, .int v4, .int v5] [] (I, L, ab_RR, n, nc, ns) res := by
  refine ab_iinc (i := 4) (v := (v4 + 1)) d_K_cutOf_90 rfl rfl (by decide) (Or.inr rfl) ?_
  refine ab_goto (tgt := 28) d_K_cutOf_93 (by decide) ?_
  refine ab_drop 5 ?_
  exact h
