theorem d_K_rivalOf_0 : decode (ab_bc mt_K_rivalOf) 0 = .ok (.aload_n 0, 1) := by decide +kernel
theorem d_K_rivalOf_1 : decode (ab_bc mt_K_rivalOf) 1 = .ok (.iload_n 1, 1) := by decide +kernel
theorem d_K_rivalOf_2 : decode (ab_bc mt_K_rivalOf) 2 = .ok (.invokevirtual 214, 3) := by decide +kernel
theorem d_K_rivalOf_5 : decode (ab_bc mt_K_rivalOf) 5 = .ok (.istore_n 2, 1) := by decide +kernel
theorem d_K_rivalOf_6 : decode (ab_bc mt_K_rivalOf) 6 = .ok (.iload_n 2, 1) := by decide +kernel
theorem d_K_rivalOf_7 : decode (ab_bc mt_K_rivalOf) 7 = .ok (.ifCond .ne 5, 3) := by decide +kernel
theorem d_K_rivalOf_10 : decode (ab_bc mt_K_rivalOf) 10 = .ok (.iconst (-1), 1) := by decide +kernel
theorem d_K_rivalOf_11 : decode (ab_bc mt_K_rivalOf) 11 = .ok (.ireturn, 1) := by decide +kernel
theorem d_K_rivalOf_12 : decode (ab_bc mt_K_rivalOf) 12 = .ok (.aload_n 0, 1) := by decide +kernel
theorem d_K_rivalOf_13 : decode (ab_bc mt_K_rivalOf) 13 = .ok (.getfield 23, 3) := by decide +kernel
theorem d_K_rivalOf_16 : decode (ab_bc mt_K_rivalOf) 16 = .ok (.getfield 110, 3) := by decide +kernel
theorem d_K_rivalOf_19 : decode (ab_bc mt_K_rivalOf) 19 = .ok (.astore_n 3, 1) := by decide +kernel
theorem d_K_rivalOf_20 : decode (ab_bc mt_K_rivalOf) 20 = .ok (.iconst 0, 1) := by decide +kernel
theorem d_K_rivalOf_21 : decode (ab_bc mt_K_rivalOf) 21 = .ok (.istore 4, 2) := by decide +kernel
theorem d_K_rivalOf_23 : decode (ab_bc mt_K_rivalOf) 23 = .ok (.iload 4, 2) := by decide +kernel
theorem d_K_rivalOf_25 : decode (ab_bc mt_K_rivalOf) 25 = .ok (.aload_n 3, 1) := by decide +kernel
theorem d_K_rivalOf_26 : decode (ab_bc mt_K_rivalOf) 26 = .ok (.getfield 116, 3) := by decide +kernel
theorem d_K_rivalOf_29 : decode (ab_bc mt_K_rivalOf) 29 = .ok (.if_icmp .ge 46, 3) := by decide +kernel
theorem d_K_rivalOf_32 : decode (ab_bc mt_K_rivalOf) 32 = .ok (.aload_n 3, 1) := by decide +kernel
theorem d_K_rivalOf_33 : decode (ab_bc mt_K_rivalOf) 33 = .ok (.getfield 420, 3) := by decide +kernel
theorem d_K_rivalOf_36 : decode (ab_bc mt_K_rivalOf) 36 = .ok (.iload 4, 2) := by decide +kernel
theorem d_K_rivalOf_38 : decode (ab_bc mt_K_rivalOf) 38 = .ok (.iaload, 1) := by decide +kernel
theorem d_K_rivalOf_39 : decode (ab_bc mt_K_rivalOf) 39 = .ok (.istore 5, 2) := by decide +kernel
theorem d_K_rivalOf_41 : decode (ab_bc mt_K_rivalOf) 41 = .ok (.iload 5, 2) := by decide +kernel
theorem d_K_rivalOf_43 : decode (ab_bc mt_K_rivalOf) 43 = .ok (.iload_n 1, 1) := by decide +kernel
theorem d_K_rivalOf_44 : decode (ab_bc mt_K_rivalOf) 44 = .ok (.if_icmp .eq 25, 3) := by decide +kernel
theorem d_K_rivalOf_47 : decode (ab_bc mt_K_rivalOf) 47 = .ok (.aload_n 3, 1) := by decide +kernel
theorem d_K_rivalOf_48 : decode (ab_bc mt_K_rivalOf) 48 = .ok (.iload 5, 2) := by decide +kernel
theorem d_K_rivalOf_50 : decode (ab_bc mt_K_rivalOf) 50 = .ok (.invokevirtual 201, 3) := by decide +kernel
theorem d_K_rivalOf_53 : decode (ab_bc mt_K_rivalOf) 53 = .ok (.ifCond .eq 16, 3) := by decide +kernel
theorem d_K_rivalOf_56 : decode (ab_bc mt_K_rivalOf) 56 = .ok (.aload_n 3, 1) := by decide +kernel
theorem d_K_rivalOf_57 : decode (ab_bc mt_K_rivalOf) 57 = .ok (.iload 5, 2) := by decide +kernel
theorem d_K_rivalOf_59 : decode (ab_bc mt_K_rivalOf) 59 = .ok (.iload_n 2, 1) := by decide +kernel
theorem d_K_rivalOf_60 : decode (ab_bc mt_K_rivalOf) 60 = .ok (.invokevirtual 421, 3) := by decide +kernel
theorem d_K_rivalOf_63 : decode (ab_bc mt_K_rivalOf) 63 = .ok (.ifCond .eq 6, 3) := by decide +kernel
theorem d_K_rivalOf_66 : decode (ab_bc mt_K_rivalOf) 66 = .ok (.iload 5, 2) := by decide +kernel
theorem d_K_rivalOf_68 : decode (ab_bc mt_K_rivalOf) 68 = .ok (.ireturn, 1) := by decide +kernel
theorem d_K_rivalOf_69 : decode (ab_bc mt_K_rivalOf) 69 = .ok (.iinc 4 1, 3) := by decide +kernel
theorem d_K_rivalOf_72 : decode (ab_bc mt_K_rivalOf) 72 = .ok (.goto (-49), 3) := by decide +kernel
theorem d_K_rivalOf_75 : decode (ab_bc mt_K_rivalOf) 75 = .ok (.iconst (-1), 1) := by decide +kernel
theorem d_K_rivalOf_76 : decode (ab_bc mt_K_rivalOf) 76 = .ok (.ireturn, 1) := by decide +kernel
-- CableKeeper.rivalOf(I)I over kx
theorem q_K_rivalOf_0 {w : ab_Wd} {d n nc ns : Nat} {I : Nat → Nat → Int32} {L : Nat → Nat → Int64} {res : ab_Re} (v1 : Int32) (hc : nc ≤ res.2.2.2.2.2.1) (hs : ns ≤ res.2.2.2.2.2.2)
    (h : ∃ (r1 : Int32), ab_C w d mt_K_cutOf [.ref kx, .int v1] (I, L, ab_RR, n, nc, ns) (.inl (some (.int r1)), (I, L, ab_RR, n, nc, ns)) ∧ ((¬ r1 = 0 → (ab_E w (d + 1) mt_K_rivalOf 23 [.ref kx, .int v1, .int r1, .ref kx_now_cables, .int 0, .null] [] (I, L, ab_RR, n, nc, ns) res)) ∧ (r1 = 0 → (res = (.inl (some (.int (-1))), (I, L, ab_RR, n, nc, ns)))))) : ab_E w (d + 1) mt_K_rivalOf 0 [.ref kx, .int v1, .null, .null, .null, .null] [] (I, L, ab_RR, n, nc, ns) res := by
  refine ab_aload_n (i := 0) d_K_rivalOf_0 rfl rfl ?_
  refine ab_iload_n (i := 1) d_K_rivalOf_1 rfl rfl ?_
  obtain ⟨r1, hC, h⟩ := h
  refine ab_callV (me2 := mt_K_cutOf) (b := kx) (as := [.int v1]) (st := []) (rv := (some (.int r1))) (M2 := (I, L, ab_RR, n, nc, ns)) d_K_rivalOf_2 ce_K_cutOf v_996 v_998 v_37 (by decide) rfl (Nat.le_of_ble_eq_true rfl) hC (Nat.le_refl _) (Nat.le_refl _) hc hs (fun j h9 => by cases h9) (fun _ _ => rfl) ?_
  show ab_E w (d + 1) mt_K_rivalOf 5 [.ref kx, .int v1, .null, .null, .null, .null] [.int r1] (I, L, ab_RR, n, nc, ns) res
  refine ab_istore_n (i := 2) d_K_rivalOf_5 rfl (by decide) (Or.inr rfl) ?_
  refine ab_iload_n (i := 2) d_K_rivalOf_6 rfl rfl ?_
  refine ab_if_ne (tgt := 12) d_K_rivalOf_7 (by decide) (fun c2 => ?_) (fun c2 => ?_)
  · have h := h.1 c2
    refine ab_aload_n (i := 0) d_K_rivalOf_12 rfl rfl ?_
    refine ab_getR (ci := 10) (k := 3) (j := kx_now) d_K_rivalOf_13 v_475 rfl (by decide) (by decide) rfl r_kx_3 ?_
    refine ab_getR (ci := 6) (k := 0) (j := kx_now_cables) d_K_rivalOf_16 v_294 rfl (by decide) (by decide) rfl r_kx_now_0 ?_
    refine ab_astore_n (i := 3) d_K_rivalOf_19 rfl (by decide) (Or.inr rfl) ?_
    refine ab_iconst (v := 0) d_K_rivalOf_20 rfl ?_
    refine ab_istore (i := 4) d_K_rivalOf_21 (by decide) (Or.inr rfl) ?_
    exact h
  · have h := h.2 c2
    refine ab_iconst (v := (-1)) d_K_rivalOf_10 rfl ?_
    exact ab_iret (ty := .int) d_K_rivalOf_11 rfl rfl h
theorem q_K_rivalOf_23 {w : ab_Wd} {d n nc ns : Nat} {I : Nat → Nat → Int32} {L : Nat → Nat → Int64} {res : ab_Re} (v1 : Int32) (v2 : Int32) (v4 : Int32) (hc : nc ≤ res.2.2.2.2.2.1) (hs : ns ≤ res.2.2.2.2.2.2)
    (h : (((I kx_now_cables 1) ≤ v4 → (res = (.inl (some (.int (-1))), (I, L, ab_RR, n, nc, ns)))) ∧ (¬ (I kx_now_cables 1) ≤ v4 → ((vp_in v4 24) ∧ (((I kx_now_cables_order v4.toNatClampNeg) = v1 → (ab_E w (d + 1) mt_K_rivalOf 69 [.ref kx, .int v1, .int v2, .ref kx_now_cables, .int v4, .int (I kx_now_cables_order v4.toNatClampNeg)] [] (I, L, ab_RR, n, nc, ns) res)) ∧ (¬ (I kx_now_cables_order v4.toNatClampNeg) = v1 → (∃ (r4 : Int32), ab_C w d mt_Cables_isSound [.ref kx_now_cables, .int (I kx_now_cables_order v4.toNatClampNeg)] (I, L, ab_RR, n, nc, ns) (.inl (some (.int r4)), (I, L, ab_RR, n, nc, ns)) ∧ ((r4 = 0 → (ab_E w (d + 1) mt_K_rivalOf 69 [.ref kx, .int v1, .int v2, .ref kx_now_cables, .int v4, .int (I kx_now_cables_order v4.toNatClampNeg)] [] (I, L, ab_RR, n, nc, ns) res)) ∧ (¬ r4 = 0 → (∃ (r6 : Int32), ab_C w d mt_Cables_crosses [.ref kx_now_cables, .int (I kx_now_cables_order v4.toNatClampNeg), .int v2] (I, L, ab_RR, n, nc, ns) (.inl (some (.int r6)), (I, L, ab_RR, n, nc, ns)) ∧ ((r6 = 0 → (ab_E w (d + 1) mt_K_rivalOf 69 [.ref kx, .int v1, .int v2, .ref kx_now_cables, .int v4, .int (I kx_now_cables_order v4.toNatClampNeg)] [] (I, L, ab_RR, n, nc, ns) res)) ∧ (¬ r6 = 0 → (res = (.inl (some (.int (I kx_now_cables_order v4.toNatClampNeg))), (I, L, ab_RR, n, nc, ns))))))))))))))) : ab_E w (d + 1) mt_K_rivalOf 23 [.ref kx, .int v1, .int v2, .ref kx_now_cables, .int v4, .null] [] (I, L, ab_RR, n, nc, ns) res := by
  refine ab_iload (i := 4) d_K_rivalOf_23 rfl ?_
  refine ab_aload_n (i := 3) d_K_rivalOf_25 rfl rfl ?_
  refine ab_getI (ci := 1) (k := 1) d_K_rivalOf_26 v_199 rfl (by decide) (by decide) rfl ?_
  refine ab_icmp_ge (tgt := 75) d_K_rivalOf_29 (by decide) (fun c1 => ?_) (fun c1 => ?_)
  · have h := h.1 c1
    refine ab_iconst (v := (-1)) d_K_rivalOf_75 rfl ?_
    exact ab_iret (ty := .int) d_K_rivalOf_76 rfl rfl h
  · have h := h.2 c1
    refine ab_aload_n (i := 3) d_K_rivalOf_32 rfl rfl ?_
    refine ab_getR (ci := 1) (k := 7) (j := kx_now_cables_order) d_K_rivalOf_33 v_232 rfl (by decide) (by decide) rfl r_kx_now_cables_7 ?_
    refine ab_iload (i := 4) d_K_rivalOf_36 rfl ?_
    have g2 := h.1; have h := h.2
    refine ab_iald d_K_rivalOf_38 rfl rfl g2 ?_
    refine ab_istore (i := 5) d_K_rivalOf_39 (by decide) (Or.inr rfl) ?_
    refine ab_iload (i := 5) d_K_rivalOf_41 rfl ?_
    refine ab_iload_n (i := 1) d_K_rivalOf_43 rfl rfl ?_
    refine ab_icmp_eq (tgt := 69) d_K_rivalOf_44 (by decide) (fun c3 => ?_) (fun c3 => ?_)
    · have h := h.1 c3
      exact h
    · have h := h.2 c3
      refine ab_aload_n (i := 3) d_K_rivalOf_47 rfl rfl ?_
      refine ab_iload (i := 5) d_K_rivalOf_48 rfl ?_
      obtain ⟨r4, hC, h⟩ := h
      refine ab_callV (me2 := mt_Cables_isSound) (b := kx_now_cables) (as := [.int (I kx_now_cables_order v4.toNatClampNeg)]) (st := []) (rv := (some (.int r4))) (M2 := (I, L, ab_RR, n, nc, ns)) d_K_rivalOf_50 ce_Cables_isSound v_624 v_540 v_541 (by decide) rfl (Nat.le_of_ble_eq_true rfl) hC (Nat.le_refl _) (Nat.le_refl _) hc hs (fun j h9 => by cases h9) (fun _ _ => rfl) ?_
      show ab_E w (d + 1) mt_K_rivalOf 53 [.ref kx, .int v1, .int v2, .ref kx_now_cables, .int v4, .int (I kx_now_cables_order v4.toNatClampNeg)] [.int r4] (I, L, ab_RR, n, nc, ns) res
      refine ab_if_eq (tgt := 69) d_K_rivalOf_53 (by decide) (fun c5 => ?_) (fun c5 => ?_)
      · have h := h.1 c5
        exact h
      · have h := h.2 c5
        refine ab_aload_n (i := 3) d_K_rivalOf_56 rfl rfl ?_
        refine ab_iload (i := 5) d_K_rivalOf_57 rfl ?_
        refine ab_iload_n (i := 2) d_K_rivalOf_59 rfl rfl ?_
        obtain ⟨r6, hC, h⟩ := h
        refine ab_callV (me2 := mt_Cables_crosses) (b := kx_now_cables) (as := [.int (I kx_now_cables_order v4.toNatClampNeg), .int v2]) (st := []) (rv := (some (.int r6))) (M2 := (I, L, ab_RR, n, nc, ns)) d_K_rivalOf_60 ce_Cables_crosses v_1008 v_1009 v_1010 (by decide) rfl (Nat.le_of_ble_eq_true rfl) hC (Nat.le_refl _) (Nat.le_refl _) hc hs (fun j h9 => by cases h9) (fun _ _ => rfl) ?_
        show ab_E w (d + 1) mt_K_rivalOf 63 [.ref kx, .int v1, .int v2, .ref kx_now_cables, .int v4, .int (I kx_now_cables_order v4.toNatClampNeg)] [.int r6] (I, L, ab_RR, n, nc, ns) res
        refine ab_if_eq (tgt := 69) d_K_rivalOf_63 (by decide) (fun c7 => ?_) (fun c7 => ?_)
        · have h := h.1 c7
          exact h
        · have h := h.2 c7
          refine ab_iload (i := 5) d_K_rivalOf_66 rfl ?_
          exact ab_iret (ty := .int) d_K_rivalOf_68 rfl rfl h
theorem q_K_rivalOf_69 {w : ab_Wd} {d n nc ns : Nat} {I : Nat → Nat → Int32} {L : Nat → Nat → Int64} {res : ab_Re} (v1 : Int32) (v2 : Int32) (v4 : Int32) (v5 : Int32) (hc : nc ≤ res.2.2.2.2.2.1) (hs : ns ≤ res.2.2.2.2.2.2)
    (h : ab_E w (d + 1) mt_K_rivalOf 23 [.ref kx, .int v1, .int v2, .ref kx_now_cables, .int (v4 + 1), .null] [] (I, L, ab_RR, n, nc, ns) res) : ab_E w (d + 1) mt_K_rivalOf 69 [.ref kx, .int v1, .int v2, .ref kx_now_cables, .int v4, .int v5] [] (I, L, ab_RR, n, nc, ns) res := by
  refine ab_iinc (i := 4) (v := (v4 + 1)) d_K_rivalOf_69 rfl rfl (by decide) (Or.inr rfl) ?_
  refine ab_goto (tgt := 23) d_K_rivalOf_72 (by decide) ?_
  refine ab_drop 5 ?_
  exact h
theorem d_K_partnerOf_0 : decode (ab_bc mt_K_partnerOf) 0 = .ok (.aload_n 0, 1) := by decide +kernel
theorem d_K_partnerOf_1 : decode (ab_bc mt_K_partnerOf) 1 = .ok (.iload_n 1, 1) := by decide +kernel
theorem d_K_partnerOf_2 : decode (ab_bc mt_K_partnerOf) 2 = .ok (.invokevirtual 205, 3) := by decide +kernel
theorem d_K_partnerOf_5 : decode (ab_bc mt_K_partnerOf) 5 = .ok (.ifCond .eq 11, 3) := by decide +kernel
theorem d_K_partnerOf_8 : decode (ab_bc mt_K_partnerOf) 8 = .ok (.aload_n 0, 1) := by decide +kernel
theorem d_K_partnerOf_9 : decode (ab_bc mt_K_partnerOf) 9 = .ok (.iload_n 1, 1) := by decide +kernel
theorem d_K_partnerOf_10 : decode (ab_bc mt_K_partnerOf) 10 = .ok (.invokevirtual 217, 3) := by decide +kernel
theorem d_K_partnerOf_13 : decode (ab_bc mt_K_partnerOf) 13 = .ok (.goto 8, 3) := by decide +kernel
theorem d_K_partnerOf_16 : decode (ab_bc mt_K_partnerOf) 16 = .ok (.aload_n 0, 1) := by decide +kernel
theorem d_K_partnerOf_17 : decode (ab_bc mt_K_partnerOf) 17 = .ok (.iload_n 1, 1) := by decide +kernel
theorem d_K_partnerOf_18 : decode (ab_bc mt_K_partnerOf) 18 = .ok (.invokevirtual 211, 3) := by decide +kernel
theorem d_K_partnerOf_21 : decode (ab_bc mt_K_partnerOf) 21 = .ok (.ireturn, 1) := by decide +kernel
-- CableKeeper.partnerOf(I)I over kx
theorem q_K_partnerOf_0 {w : ab_Wd} {d n nc ns : Nat} {I : Nat → Nat → Int32} {L : Nat → Nat → Int64} {res : ab_Re} (v1 : Int32) (hc : nc ≤ res.2.2.2.2.2.1) (hs : ns ≤ res.2.2.2.2.2.2)
    (h : ∃ (r1 : Int32), ab_C w d mt_K_isInside [.ref kx, .int v1] (I, L, ab_RR, n, nc, ns) (.inl (some (.int r1)), (I, L, ab_RR, n, nc, ns)) ∧ ((r1 = 0 → (∃ (r3 : Int32), ab_C w d mt_K_dearestOf [.ref kx, .int v1] (I, L, ab_RR, n, nc, ns) (.inl (some (.int r3)), (I, L, ab_RR, n, nc, ns)) ∧ ab_E w (d + 1) mt_K_partnerOf 21 [.ref kx, .int v1] [.int r3] (I, L, ab_RR, n, nc, ns) res)) ∧ (¬ r1 = 0 → (∃ (r4 : Int32), ab_C w d mt_K_rivalOf [.ref kx, .int v1] (I, L, ab_RR, n, nc, ns) (.inl (some (.int r4)), (I, L, ab_RR, n, nc, ns)) ∧ ab_E w (d + 1) mt_K_partnerOf 21 [.ref kx, .int v1] [.int r4] (I, L, ab_RR, n, nc, ns) res)))) : ab_E w (d + 1) mt_K_partnerOf 0 [.ref kx, .int v1] [] (I, L, ab_RR, n, nc, ns) res := by
  refine ab_aload_n (i := 0) d_K_partnerOf_0 rfl rfl ?_
  refine ab_iload_n (i := 1) d_K_partnerOf_1 rfl rfl ?_
  obtain ⟨r1, hC, h⟩ := h
  refine ab_callV (me2 := mt_K_isInside) (b := kx) (as := [.int v1]) (st := []) (rv := (some (.int r1))) (M2 := (I, L, ab_RR, n, nc, ns)) d_K_partnerOf_2 ce_K_isInside v_944 v_946 v_30 (by decide) rfl (Nat.le_of_ble_eq_true rfl) hC (Nat.le_refl _) (Nat.le_refl _) hc hs (fun j h9 => by cases h9) (fun _ _ => rfl) ?_
  show ab_E w (d + 1) mt_K_partnerOf 5 [.ref kx, .int v1] [.int r1] (I, L, ab_RR, n, nc, ns) res
  refine ab_if_eq (tgt := 16) d_K_partnerOf_5 (by decide) (fun c2 => ?_) (fun c2 => ?_)
  · have h := h.1 c2
    refine ab_aload_n (i := 0) d_K_partnerOf_16 rfl rfl ?_
    refine ab_iload_n (i := 1) d_K_partnerOf_17 rfl rfl ?_
    obtain ⟨r3, hC, h⟩ := h
    refine ab_callV (me2 := mt_K_dearestOf) (b := kx) (as := [.int v1]) (st := []) (rv := (some (.int r3))) (M2 := (I, L, ab_RR, n, nc, ns)) d_K_partnerOf_18 ce_K_dearestOf v_936 v_938 v_28 (by decide) rfl (Nat.le_of_ble_eq_true rfl) hC (Nat.le_refl _) (Nat.le_refl _) hc hs (fun j h9 => by cases h9) (fun _ _ => rfl) ?_
    show ab_E w (d + 1) mt_K_partnerOf 21 [.ref kx, .int v1] [.int r3] (I, L, ab_RR, n, nc, ns) res
    exact h
  · have h := h.2 c2
    refine ab_aload_n (i := 0) d_K_partnerOf_8 rfl rfl ?_
    refine ab_iload_n (i := 1) d_K_partnerOf_9 rfl rfl ?_
    obtain ⟨r4, hC, h⟩ := h
    refine ab_callV (me2 := mt_K_rivalOf) (b := kx) (as := [.int v1]) (st := []) (rv := (some (.int r4))) (M2 := (I, L, ab_RR, n, nc, ns)) d_K_partnerOf_10 ce_K_rivalOf v_1083 v_1085 v_45 (by decide) rfl (Nat.le_of_ble_eq_true rfl) hC (Nat.le_refl _) (Nat.le_refl _) hc hs (fun j h9 => by cases h9) (fun _ _ => rfl) ?_
    show ab_E w (d + 1) mt_K_partnerOf 13 [.ref kx, .int v1] [.int r4] (I, L, ab_RR, n, nc, ns) res
    refine ab_goto (tgt := 21) d_K_partnerOf_13 (by decide) ?_
    exact h
theorem q_K_partnerOf_21 {w : ab_Wd} {d n nc ns : Nat} {I : Nat → Nat → Int32} {L : Nat → Nat → Int64} {res : ab_Re} (v1 : Int32) (s0 : Int32) (hc : nc ≤ res.2.2.2.2.2.1) (hs : ns ≤ res.2.2.2.2.2.2)
    (h : res = (.inl (some (.int s0)), (I, L, ab_RR, n, nc, ns))) : ab_E w (d + 1) mt_K_partnerOf 21 [.ref kx, .int v1] [.int s0] (I, L, ab_RR, n, nc, ns) res := by
  exact ab_iret (ty := .int) d_K_partnerOf_21 rfl rfl h
theorem d_K_barOf_0 : decode (ab_bc mt_K_barOf) 0 = .ok (.aload_n 0, 1) := by decide +kernel
theorem d_K_barOf_1 : decode (ab_bc mt_K_barOf) 1 = .ok (.getfield 23, 3) := by decide +kernel
theorem d_K_barOf_4 : decode (ab_bc mt_K_barOf) 4 = .ok (.getfield 110, 3) := by decide +kernel
theorem d_K_barOf_7 : decode (ab_bc mt_K_barOf) 7 = .ok (.iload_n 1, 1) := by decide +kernel
theorem d_K_barOf_8 : decode (ab_bc mt_K_barOf) 8 = .ok (.invokevirtual 201, 3) := by decide +kernel
theorem d_K_barOf_11 : decode (ab_bc mt_K_barOf) 11 = .ok (.ifCond .ne 5, 3) := by decide +kernel
theorem d_K_barOf_14 : decode (ab_bc mt_K_barOf) 14 = .ok (.iconst (-1), 1) := by decide +kernel
theorem d_K_barOf_15 : decode (ab_bc mt_K_barOf) 15 = .ok (.ireturn, 1) := by decide +kernel
theorem d_K_barOf_16 : decode (ab_bc mt_K_barOf) 16 = .ok (.aload_n 0, 1) := by decide +kernel
theorem d_K_barOf_17 : decode (ab_bc mt_K_barOf) 17 = .ok (.iload_n 1, 1) := by decide +kernel
theorem d_K_barOf_18 : decode (ab_bc mt_K_barOf) 18 = .ok (.invokevirtual 390, 3) := by decide +kernel
theorem d_K_barOf_21 : decode (ab_bc mt_K_barOf) 21 = .ok (.istore_n 2, 1) := by decide +kernel
theorem d_K_barOf_22 : decode (ab_bc mt_K_barOf) 22 = .ok (.iload_n 2, 1) := by decide +kernel
theorem d_K_barOf_23 : decode (ab_bc mt_K_barOf) 23 = .ok (.iconst (-1), 1) := by decide +kernel
theorem d_K_barOf_24 : decode (ab_bc mt_K_barOf) 24 = .ok (.if_icmp .ne 7, 3) := by decide +kernel
theorem d_K_barOf_27 : decode (ab_bc mt_K_barOf) 27 = .ok (.sipush 999, 3) := by decide +kernel
theorem d_K_barOf_30 : decode (ab_bc mt_K_barOf) 30 = .ok (.ireturn, 1) := by decide +kernel
theorem d_K_barOf_31 : decode (ab_bc mt_K_barOf) 31 = .ok (.aload_n 0, 1) := by decide +kernel
theorem d_K_barOf_32 : decode (ab_bc mt_K_barOf) 32 = .ok (.getfield 23, 3) := by decide +kernel
theorem d_K_barOf_35 : decode (ab_bc mt_K_barOf) 35 = .ok (.getfield 110, 3) := by decide +kernel
theorem d_K_barOf_38 : decode (ab_bc mt_K_barOf) 38 = .ok (.getfield 195, 3) := by decide +kernel
theorem d_K_barOf_41 : decode (ab_bc mt_K_barOf) 41 = .ok (.iload_n 2, 1) := by decide +kernel
theorem d_K_barOf_42 : decode (ab_bc mt_K_barOf) 42 = .ok (.iaload, 1) := by decide +kernel
theorem d_K_barOf_43 : decode (ab_bc mt_K_barOf) 43 = .ok (.istore_n 3, 1) := by decide +kernel
theorem d_K_barOf_44 : decode (ab_bc mt_K_barOf) 44 = .ok (.iload_n 1, 1) := by decide +kernel
theorem d_K_barOf_45 : decode (ab_bc mt_K_barOf) 45 = .ok (.iload_n 2, 1) := by decide +kernel
theorem d_K_barOf_46 : decode (ab_bc mt_K_barOf) 46 = .ok (.if_icmp .ge 7, 3) := by decide +kernel
theorem d_K_barOf_49 : decode (ab_bc mt_K_barOf) 49 = .ok (.iload_n 3, 1) := by decide +kernel
theorem d_K_barOf_50 : decode (ab_bc mt_K_barOf) 50 = .ok (.goto 6, 3) := by decide +kernel
theorem d_K_barOf_53 : decode (ab_bc mt_K_barOf) 53 = .ok (.iload_n 3, 1) := by decide +kernel
theorem d_K_barOf_54 : decode (ab_bc mt_K_barOf) 54 = .ok (.iconst 1, 1) := by decide +kernel
theorem d_K_barOf_55 : decode (ab_bc mt_K_barOf) 55 = .ok (.isub, 1) := by decide +kernel
theorem d_K_barOf_56 : decode (ab_bc mt_K_barOf) 56 = .ok (.istore 4, 2) := by decide +kernel
theorem d_K_barOf_58 : decode (ab_bc mt_K_barOf) 58 = .ok (.iload 4, 2) := by decide +kernel
theorem d_K_barOf_60 : decode (ab_bc mt_K_barOf) 60 = .ok (.iconst 1, 1) := by decide +kernel
theorem d_K_barOf_61 : decode (ab_bc mt_K_barOf) 61 = .ok (.if_icmp .ge 7, 3) := by decide +kernel
theorem d_K_barOf_64 : decode (ab_bc mt_K_barOf) 64 = .ok (.iconst (-1), 1) := by decide +kernel
theorem d_K_barOf_65 : decode (ab_bc mt_K_barOf) 65 = .ok (.goto 5, 3) := by decide +kernel
theorem d_K_barOf_68 : decode (ab_bc mt_K_barOf) 68 = .ok (.iload 4, 2) := by decide +kernel
theorem d_K_barOf_70 : decode (ab_bc mt_K_barOf) 70 = .ok (.ireturn, 1) := by decide +kernel
-- CableKeeper.barOf(I)I over kx
theorem q_K_barOf_0 {w : ab_Wd} {d n nc ns : Nat} {I : Nat → Nat → Int32} {L : Nat → Nat → Int64} {res : ab_Re} (v1 : Int32) (hc : nc ≤ res.2.2.2.2.2.1) (hs : ns ≤ res.2.2.2.2.2.2)
    (h : ∃ (r1 : Int32), ab_C w d mt_Cables_isSound [.ref kx_now_cables, .int v1] (I, L, ab_RR, n, nc, ns) (.inl (some (.int r1)), (I, L, ab_RR, n, nc, ns)) ∧ ((¬ r1 = 0 → (∃ (r3 : Int32), ab_C w d mt_K_partnerOf [.ref kx, .int v1] (I, L, ab_RR, n, nc, ns) (.inl (some (.int r3)), (I, L, ab_RR, n, nc, ns)) ∧ ((¬ r3 = (-1) → ((vp_in r3 24) ∧ ((r3 ≤ v1 → (ab_E w (d + 1) mt_K_barOf 56 [.ref kx, .int v1, .int r3, .int (I kx_now_cables_price r3.toNatClampNeg), .null] [.int ((I kx_now_cables_price r3.toNatClampNeg) - 1)] (I, L, ab_RR, n, nc, ns) res)) ∧ (¬ r3 ≤ v1 → (ab_E w (d + 1) mt_K_barOf 56 [.ref kx, .int v1, .int r3, .int (I kx_now_cables_price r3.toNatClampNeg), .null] [.int (I kx_now_cables_price r3.toNatClampNeg)] (I, L, ab_RR, n, nc, ns) res))))) ∧ (r3 = (-1) → (res = (.inl (some (.int 999)), (I, L, ab_RR, n, nc, ns))))))) ∧ (r1 = 0 → (res = (.inl (some (.int (-1))), (I, L, ab_RR, n, nc, ns)))))) : ab_E w (d + 1) mt_K_barOf 0 [.ref kx, .int v1, .null, .null, .null] [] (I, L, ab_RR, n, nc, ns) res := by
  refine ab_aload_n (i := 0) d_K_barOf_0 rfl rfl ?_
  refine ab_getR (ci := 10) (k := 3) (j := kx_now) d_K_barOf_1 v_475 rfl (by decide) (by decide) rfl r_kx_3 ?_
  refine ab_getR (ci := 6) (k := 0) (j := kx_now_cables) d_K_barOf_4 v_294 rfl (by decide) (by decide) rfl r_kx_now_0 ?_
  refine ab_iload_n (i := 1) d_K_barOf_7 rfl rfl ?_
  obtain ⟨r1, hC, h⟩ := h
  refine ab_callV (me2 := mt_Cables_isSound) (b := kx_now_cables) (as := [.int v1]) (st := []) (rv := (some (.int r1))) (M2 := (I, L, ab_RR, n, nc, ns)) d_K_barOf_8 ce_Cables_isSound v_624 v_540 v_541 (by decide) rfl (Nat.le_of_ble_eq_true rfl) hC (Nat.le_refl _) (Nat.le_refl _) hc hs (fun j h9 => by cases h9) (fun _ _ => rfl) ?_
  show ab_E w (d + 1) mt_K_barOf 11 [.ref kx, .int v1, .null, .null, .null] [.int r1] (I, L, ab_RR, n, nc, ns) res
  refine ab_if_ne (tgt := 16) d_K_barOf_11 (by decide) (fun c2 => ?_) (fun c2 => ?_)
  · have h := h.1 c2
    refine ab_aload_n (i := 0) d_K_barOf_16 rfl rfl ?_
    refine ab_iload_n (i := 1) d_K_barOf_17 rfl rfl ?_
    obtain ⟨r3, hC, h⟩ := h
    refine ab_callV (me2 := mt_K_partnerOf) (b := kx) (as := [.int v1]) (st := []) (rv := (some (.int r3))) (M2 := (I, L, ab_RR, n, nc, ns)) d_K_barOf_18 ce_K_partnerOf v_1091 v_1093 v_47 (by decide) rfl (Nat.le_of_ble_eq_true rfl) hC (Nat.le_refl _) (Nat.le_refl _) hc hs (fun j h9 => by cases h9) (fun _ _ => rfl) ?_
    show ab_E w (d + 1) mt_K_barOf 21 [.ref kx, .int v1, .null, .null, .null] [.int r3] (I, L, ab_RR, n, nc, ns) res
    refine ab_istore_n (i := 2) d_K_barOf_21 rfl (by decide) (Or.inr rfl) ?_
    refine ab_iload_n (i := 2) d_K_barOf_22 rfl rfl ?_
    refine ab_iconst (v := (-1)) d_K_barOf_23 rfl ?_
    refine ab_icmp_ne (tgt := 31) d_K_barOf_24 (by decide) (fun c4 => ?_) (fun c4 => ?_)
    · have h := h.1 c4
      refine ab_aload_n (i := 0) d_K_barOf_31 rfl rfl ?_
      refine ab_getR (ci := 10) (k := 3) (j := kx_now) d_K_barOf_32 v_475 rfl (by decide) (by decide) rfl r_kx_3 ?_
      refine ab_getR (ci := 6) (k := 0) (j := kx_now_cables) d_K_barOf_35 v_294 rfl (by decide) (by decide) rfl r_kx_now_0 ?_
      refine ab_getR (ci := 1) (k := 5) (j := kx_now_cables_price) d_K_barOf_38 v_224 rfl (by decide) (by decide) rfl r_kx_now_cables_5 ?_
      refine ab_iload_n (i := 2) d_K_barOf_41 rfl rfl ?_
      have g5 := h.1; have h := h.2
      refine ab_iald d_K_barOf_42 rfl rfl g5 ?_
      refine ab_istore_n (i := 3) d_K_barOf_43 rfl (by decide) (Or.inr rfl) ?_
      refine ab_iload_n (i := 1) d_K_barOf_44 rfl rfl ?_
      refine ab_iload_n (i := 2) d_K_barOf_45 rfl rfl ?_
      refine ab_icmp_ge (tgt := 53) d_K_barOf_46 (by decide) (fun c6 => ?_) (fun c6 => ?_)
      · have h := h.1 c6
        refine ab_iload_n (i := 3) d_K_barOf_53 rfl rfl ?_
        refine ab_iconst (v := 1) d_K_barOf_54 rfl ?_
        refine ab_isub d_K_barOf_55 ?_
        exact h
      · have h := h.2 c6
        refine ab_iload_n (i := 3) d_K_barOf_49 rfl rfl ?_
        refine ab_goto (tgt := 56) d_K_barOf_50 (by decide) ?_
        exact h
    · have h := h.2 c4
      refine ab_sipush (v := 999) d_K_barOf_27 rfl ?_
      exact ab_iret (ty := .int) d_K_barOf_30 rfl rfl h
  · have h := h.2 c2
    refine ab_iconst (v := (-1)) d_K_barOf_14 rfl ?_
    exact ab_iret (ty := .int) d_K_barOf_15 rfl rfl h
theorem q_K_barOf_56 {w : ab_Wd} {d n nc ns : Nat} {I : Nat → Nat → Int32} {L : Nat → Nat → Int64} {res : ab_Re} (v1 : Int32) (v2 : Int32) (v3 : Int32) (s0 : Int32) (hc : nc ≤ res.2.2.2.2.2.1) (hs : ns ≤ res.2.2.2.2.2.2)
    (h : ((1 ≤ s0 → (ab_E w (d + 1) mt_K_barOf 70 [.ref kx, .int v1, .int v2, .int v3, .int s0] [.int s0] (I, L, ab_RR, n, nc, ns) res)) ∧ (¬ 1 ≤ s0 → (ab_E w (d + 1) mt_K_barOf 70 [.ref kx, .int v1, .int v2, .int v3, .int s0] [.int (-1)] (I, L, ab_RR, n, nc, ns) res)))) : ab_E w (d + 1) mt_K_barOf 56 [.ref kx, .int v1, .int v2, .int v3, .null] [.int s0] (I, L, ab_RR, n, nc, ns) res := by
  refine ab_istore (i := 4) d_K_barOf_56 (by decide) (Or.inr rfl) ?_
  refine ab_iload (i := 4) d_K_barOf_58 rfl ?_
  refine ab_iconst (v := 1) d_K_barOf_60 rfl ?_
  refine ab_icmp_ge (tgt := 68) d_K_barOf_61 (by decide) (fun c1 => ?_) (fun c1 => ?_)
  · have h := h.1 c1
    refine ab_iload (i := 4) d_K_barOf_68 rfl ?_
    exact h
  · have h := h.2 c1
    refine ab_iconst (v := (-1)) d_K_barOf_64 rfl ?_
    refine ab_goto (tgt := 70) d_K_barOf_65 (by decide) ?_
    exact h
theorem q_K_barOf_70 {w : ab_Wd} {d n nc ns : Nat} {I : Nat → Nat → Int32} {L : Nat → Nat → Int64} {res : ab_Re} (v1 : Int32) (v2 : Int32) (v3 : Int32) (v4 : Int32) (s0 : Int32) (hc : nc ≤ res.2.2.2.2.2.1) (hs : ns ≤ res.2.2.2.2.2.2)
    (h : res = (.inl (some (.int s0)), (I, L, ab_RR, n, nc, ns))) : ab_E w (d + 1) mt_K_barOf 70 [.ref kx, .int v1, .int v2, .int v3, .int v4] [.int s0] (I, L, ab_RR, n, nc, ns) res := by
  exact ab_iret (ty := .int) d_K_barOf_70 rfl rfl h
theorem d_K_lossOf_0 : decode (ab_bc mt_K_lossOf) 0 = .ok (.aload_n 0, 1) := by decide +kernel
theorem d_K_lossOf_1 : decode (ab_bc mt_K_lossOf) 1 = .ok (.iload_n 1, 1) := by decide +kernel
theorem d_K_lossOf_2 : decode (ab_bc mt_K_lossOf) 2 = .ok (.invokevirtual 414, 3) := by decide +kernel
theorem d_K_lossOf_5 : decode (ab_bc mt_K_lossOf) 5 = .ok (.ifCond .eq 5, 3) := by decide +kernel
theorem d_K_lossOf_8 : decode (ab_bc mt_K_lossOf) 8 = .ok (.iconst 0, 1) := by decide +kernel
theorem d_K_lossOf_9 : decode (ab_bc mt_K_lossOf) 9 = .ok (.ireturn, 1) := by decide +kernel
theorem d_K_lossOf_10 : decode (ab_bc mt_K_lossOf) 10 = .ok (.aload_n 0, 1) := by decide +kernel
theorem d_K_lossOf_11 : decode (ab_bc mt_K_lossOf) 11 = .ok (.iload_n 1, 1) := by decide +kernel
theorem d_K_lossOf_12 : decode (ab_bc mt_K_lossOf) 12 = .ok (.invokevirtual 217, 3) := by decide +kernel
theorem d_K_lossOf_15 : decode (ab_bc mt_K_lossOf) 15 = .ok (.istore_n 2, 1) := by decide +kernel
theorem d_K_lossOf_16 : decode (ab_bc mt_K_lossOf) 16 = .ok (.iload_n 2, 1) := by decide +kernel
theorem d_K_lossOf_17 : decode (ab_bc mt_K_lossOf) 17 = .ok (.iconst (-1), 1) := by decide +kernel
theorem d_K_lossOf_18 : decode (ab_bc mt_K_lossOf) 18 = .ok (.if_icmp .ne 7, 3) := by decide +kernel
theorem d_K_lossOf_21 : decode (ab_bc mt_K_lossOf) 21 = .ok (.iconst (-1), 1) := by decide +kernel
theorem d_K_lossOf_22 : decode (ab_bc mt_K_lossOf) 22 = .ok (.goto 28, 3) := by decide +kernel
theorem d_K_lossOf_25 : decode (ab_bc mt_K_lossOf) 25 = .ok (.aload_n 0, 1) := by decide +kernel
theorem d_K_lossOf_26 : decode (ab_bc mt_K_lossOf) 26 = .ok (.getfield 23, 3) := by decide +kernel
theorem d_K_lossOf_29 : decode (ab_bc mt_K_lossOf) 29 = .ok (.getfield 110, 3) := by decide +kernel
theorem d_K_lossOf_32 : decode (ab_bc mt_K_lossOf) 32 = .ok (.getfield 195, 3) := by decide +kernel
theorem d_K_lossOf_35 : decode (ab_bc mt_K_lossOf) 35 = .ok (.iload_n 2, 1) := by decide +kernel
theorem d_K_lossOf_36 : decode (ab_bc mt_K_lossOf) 36 = .ok (.iaload, 1) := by decide +kernel
theorem d_K_lossOf_37 : decode (ab_bc mt_K_lossOf) 37 = .ok (.aload_n 0, 1) := by decide +kernel
theorem d_K_lossOf_38 : decode (ab_bc mt_K_lossOf) 38 = .ok (.getfield 23, 3) := by decide +kernel
theorem d_K_lossOf_41 : decode (ab_bc mt_K_lossOf) 41 = .ok (.getfield 110, 3) := by decide +kernel
theorem d_K_lossOf_44 : decode (ab_bc mt_K_lossOf) 44 = .ok (.getfield 195, 3) := by decide +kernel
theorem d_K_lossOf_47 : decode (ab_bc mt_K_lossOf) 47 = .ok (.iload_n 1, 1) := by decide +kernel
theorem d_K_lossOf_48 : decode (ab_bc mt_K_lossOf) 48 = .ok (.iaload, 1) := by decide +kernel
theorem d_K_lossOf_49 : decode (ab_bc mt_K_lossOf) 49 = .ok (.isub, 1) := by decide +kernel
theorem d_K_lossOf_50 : decode (ab_bc mt_K_lossOf) 50 = .ok (.ireturn, 1) := by decide +kernel
-- CableKeeper.lossOf(I)I over kx
theorem q_K_lossOf_0 {w : ab_Wd} {d n nc ns : Nat} {I : Nat → Nat → Int32} {L : Nat → Nat → Int64} {res : ab_Re} (v1 : Int32) (hc : nc ≤ res.2.2.2.2.2.1) (hs : ns ≤ res.2.2.2.2.2.2)
    (h : ∃ (r1 : Int32), ab_C w d mt_K_isOutside [.ref kx, .int v1] (I, L, ab_RR, n, nc, ns) (.inl (some (.int r1)), (I, L, ab_RR, n, nc, ns)) ∧ ((r1 = 0 → (∃ (r3 : Int32), ab_C w d mt_K_rivalOf [.ref kx, .int v1] (I, L, ab_RR, n, nc, ns) (.inl (some (.int r3)), (I, L, ab_RR, n, nc, ns)) ∧ ((¬ r3 = (-1) → ((vp_in r3 24) ∧ (vp_in v1 24) ∧ ab_E w (d + 1) mt_K_lossOf 50 [.ref kx, .int v1, .int r3] [.int ((I kx_now_cables_price r3.toNatClampNeg) - (I kx_now_cables_price v1.toNatClampNeg))] (I, L, ab_RR, n, nc, ns) res)) ∧ (r3 = (-1) → (ab_E w (d + 1) mt_K_lossOf 50 [.ref kx, .int v1, .int r3] [.int (-1)] (I, L, ab_RR, n, nc, ns) res))))) ∧ (¬ r1 = 0 → (res = (.inl (some (.int 0)), (I, L, ab_RR, n, nc, ns)))))) : ab_E w (d + 1) mt_K_lossOf 0 [.ref kx, .int v1, .null] [] (I, L, ab_RR, n, nc, ns) res := by
  refine ab_aload_n (i := 0) d_K_lossOf_0 rfl rfl ?_
  refine ab_iload_n (i := 1) d_K_lossOf_1 rfl rfl ?_
  obtain ⟨r1, hC, h⟩ := h
  refine ab_callV (me2 := mt_K_isOutside) (b := kx) (as := [.int v1]) (st := []) (rv := (some (.int r1))) (M2 := (I, L, ab_RR, n, nc, ns)) d_K_lossOf_2 ce_K_isOutside v_940 v_942 v_29 (by decide) rfl (Nat.le_of_ble_eq_true rfl) hC (Nat.le_refl _) (Nat.le_refl _) hc hs (fun j h9 => by cases h9) (fun _ _ => rfl) ?_
  show ab_E w (d + 1) mt_K_lossOf 5 [.ref kx, .int v1, .null] [.int r1] (I, L, ab_RR, n, nc, ns) res
  refine ab_if_eq (tgt := 10) d_K_lossOf_5 (by decide) (fun c2 => ?_) (fun c2 => ?_)
  · have h := h.1 c2
    refine ab_aload_n (i := 0) d_K_lossOf_10 rfl rfl ?_
    refine ab_iload_n (i := 1) d_K_lossOf_11 rfl rfl ?_
    obtain ⟨r3, hC, h⟩ := h
    refine ab_callV (me2 := mt_K_rivalOf) (b := kx) (as := [.int v1]) (st := []) (rv := (some (.int r3))) (M2 := (I, L, ab_RR, n, nc, ns)) d_K_lossOf_12 ce_K_rivalOf v_1083 v_1085 v_45 (by decide) rfl (Nat.le_of_ble_eq_true rfl) hC (Nat.le_refl _) (Nat.le_refl _) hc hs (fun j h9 => by cases h9) (fun _ _ => rfl) ?_
    show ab_E w (d + 1) mt_K_lossOf 15 [.ref kx, .int v1, .null] [.int r3] (I, L, ab_RR, n, nc, ns) res
    refine ab_istore_n (i := 2) d_K_lossOf_15 rfl (by decide) (Or.inr rfl) ?_
    refine ab_iload_n (i := 2) d_K_lossOf_16 rfl rfl ?_
    refine ab_iconst (v := (-1)) d_K_lossOf_17 rfl ?_
    refine ab_icmp_ne (tgt := 25) d_K_lossOf_18 (by decide) (fun c4 => ?_) (fun c4 => ?_)
    · have h := h.1 c4
      refine ab_aload_n (i := 0) d_K_lossOf_25 rfl rfl ?_
      refine ab_getR (ci := 10) (k := 3) (j := kx_now) d_K_lossOf_26 v_475 rfl (by decide) (by decide) rfl r_kx_3 ?_
      refine ab_getR (ci := 6) (k := 0) (j := kx_now_cables) d_K_lossOf_29 v_294 rfl (by decide) (by decide) rfl r_kx_now_0 ?_
      refine ab_getR (ci := 1) (k := 5) (j := kx_now_cables_price) d_K_lossOf_32 v_224 rfl (by decide) (by decide) rfl r_kx_now_cables_5 ?_
      refine ab_iload_n (i := 2) d_K_lossOf_35 rfl rfl ?_
      have g5 := h.1; have h := h.2
      refine ab_iald d_K_lossOf_36 rfl rfl g5 ?_
      refine ab_aload_n (i := 0) d_K_lossOf_37 rfl rfl ?_
      refine ab_getR (ci := 10) (k := 3) (j := kx_now) d_K_lossOf_38 v_475 rfl (by decide) (by decide) rfl r_kx_3 ?_
      refine ab_getR (ci := 6) (k := 0) (j := kx_now_cables) d_K_lossOf_41 v_294 rfl (by decide) (by decide) rfl r_kx_now_0 ?_
      refine ab_getR (ci := 1) (k := 5) (j := kx_now_cables_price) d_K_lossOf_44 v_224 rfl (by decide) (by decide) rfl r_kx_now_cables_5 ?_
      refine ab_iload_n (i := 1) d_K_lossOf_47 rfl rfl ?_
      have g6 := h.1; have h := h.2
      refine ab_iald d_K_lossOf_48 rfl rfl g6 ?_
      refine ab_isub d_K_lossOf_49 ?_
      exact h
    · have h := h.2 c4
      refine ab_iconst (v := (-1)) d_K_lossOf_21 rfl ?_
      refine ab_goto (tgt := 50) d_K_lossOf_22 (by decide) ?_
      exact h
  · have h := h.2 c2
    refine ab_iconst (v := 0) d_K_lossOf_8 rfl ?_
    exact ab_iret (ty := .int) d_K_lossOf_9 rfl rfl h
theorem q_K_lossOf_50 {w : ab_Wd} {d n nc ns : Nat} {I : Nat → Nat → Int32} {L : Nat → Nat → Int64} {res : ab_Re} (v1 : Int32) (v2 : Int32) (s0 : Int32) (hc : nc ≤ res.2.2.2.2.2.1) (hs : ns ≤ res.2.2.2.2.2.2)
    (h : res = (.inl (some (.int s0)), (I, L, ab_RR, n, nc, ns))) : ab_E w (d + 1) mt_K_lossOf 50 [.ref kx, .int v1, .int v2] [.int s0] (I, L, ab_RR, n, nc, ns) res := by
  exact ab_iret (ty := .int) d_K_lossOf_50 rfl rfl h
theorem d_K_netWith_0 : decode (ab_bc mt_K_netWith) 0 = .ok (.aload_n 0, 1) := by decide +kernel
theorem d_K_netWith_1 : decode (ab_bc mt_K_netWith) 1 = .ok (.iload_n 1, 1) := by decide +kernel
theorem d_K_netWith_2 : decode (ab_bc mt_K_netWith) 2 = .ok (.invokevirtual 205, 3) := by decide +kernel
theorem d_K_netWith_5 : decode (ab_bc mt_K_netWith) 5 = .ok (.ifCond .eq 11, 3) := by decide +kernel
theorem d_K_netWith_8 : decode (ab_bc mt_K_netWith) 8 = .ok (.aload_n 0, 1) := by decide +kernel
theorem d_K_netWith_9 : decode (ab_bc mt_K_netWith) 9 = .ok (.getfield 37, 3) := by decide +kernel
theorem d_K_netWith_12 : decode (ab_bc mt_K_netWith) 12 = .ok (.getfield 122, 3) := by decide +kernel
theorem d_K_netWith_15 : decode (ab_bc mt_K_netWith) 15 = .ok (.ireturn, 1) := by decide +kernel
theorem d_K_netWith_16 : decode (ab_bc mt_K_netWith) 16 = .ok (.aload_n 0, 1) := by decide +kernel
theorem d_K_netWith_17 : decode (ab_bc mt_K_netWith) 17 = .ok (.aload_n 0, 1) := by decide +kernel
theorem d_K_netWith_18 : decode (ab_bc mt_K_netWith) 18 = .ok (.iload_n 1, 1) := by decide +kernel
theorem d_K_netWith_19 : decode (ab_bc mt_K_netWith) 19 = .ok (.invokevirtual 211, 3) := by decide +kernel
theorem d_K_netWith_22 : decode (ab_bc mt_K_netWith) 22 = .ok (.iload_n 1, 1) := by decide +kernel
theorem d_K_netWith_23 : decode (ab_bc mt_K_netWith) 23 = .ok (.invokevirtual 425, 3) := by decide +kernel
theorem d_K_netWith_26 : decode (ab_bc mt_K_netWith) 26 = .ok (.ireturn, 1) := by decide +kernel
-- CableKeeper.netWith(I)I over kx
theorem q_K_netWith_0 {w : ab_Wd} {d n nc ns : Nat} {I : Nat → Nat → Int32} {L : Nat → Nat → Int64} {res : ab_Re} (v1 : Int32) (hc : nc ≤ res.2.2.2.2.2.1) (hs : ns ≤ res.2.2.2.2.2.2)
    (h : ∃ (r1 : Int32), ab_C w d mt_K_isInside [.ref kx, .int v1] (I, L, ab_RR, n, nc, ns) (.inl (some (.int r1)), (I, L, ab_RR, n, nc, ns)) ∧ ((r1 = 0 → (∃ (r3 : Int32), ab_C w d mt_K_dearestOf [.ref kx, .int v1] (I, L, ab_RR, n, nc, ns) (.inl (some (.int r3)), (I, L, ab_RR, n, nc, ns)) ∧ ∃ (r4 : Int32), ab_C w d mt_K_swapped [.ref kx, .int r3, .int v1] (I, L, ab_RR, n, nc, ns) (.inl (some (.int r4)), (I, L, ab_RR, n, nc, ns)) ∧ res = (.inl (some (.int r4)), (I, L, ab_RR, n, nc, ns)))) ∧ (¬ r1 = 0 → (res = (.inl (some (.int (I kx_forest 2))), (I, L, ab_RR, n, nc, ns)))))) : ab_E w (d + 1) mt_K_netWith 0 [.ref kx, .int v1] [] (I, L, ab_RR, n, nc, ns) res := by
  refine ab_aload_n (i := 0) d_K_netWith_0 rfl rfl ?_
  refine ab_iload_n (i := 1) d_K_netWith_1 rfl rfl ?_
  obtain ⟨r1, hC, h⟩ := h
  refine ab_callV (me2 := mt_K_isInside) (b := kx) (as := [.int v1]) (st := []) (rv := (some (.int r1))) (M2 := (I, L, ab_RR, n, nc, ns)) d_K_netWith_2 ce_K_isInside v_944 v_946 v_30 (by decide) rfl (Nat.le_of_ble_eq_true rfl) hC (Nat.le_refl _) (Nat.le_refl _) hc hs (fun j h9 => by cases h9) (fun _ _ => rfl) ?_
  show ab_E w (d + 1) mt_K_netWith 5 [.ref kx, .int v1] [.int r1] (I, L, ab_RR, n, nc, ns) res
  refine ab_if_eq (tgt := 16) d_K_netWith_5 (by decide) (fun c2 => ?_) (fun c2 => ?_)
  · have h := h.1 c2
    refine ab_aload_n (i := 0) d_K_netWith_16 rfl rfl ?_
    refine ab_aload_n (i := 0) d_K_netWith_17 rfl rfl ?_
    refine ab_iload_n (i := 1) d_K_netWith_18 rfl rfl ?_
    obtain ⟨r3, hC, h⟩ := h
    refine ab_callV (me2 := mt_K_dearestOf) (b := kx) (as := [.int v1]) (st := [.ref kx]) (rv := (some (.int r3))) (M2 := (I, L, ab_RR, n, nc, ns)) d_K_netWith_19 ce_K_dearestOf v_936 v_938 v_28 (by decide) rfl (Nat.le_of_ble_eq_true rfl) hC (Nat.le_refl _) (Nat.le_refl _) hc hs (fun j h9 => by cases h9) (fun _ _ => rfl) ?_
    show ab_E w (d + 1) mt_K_netWith 22 [.ref kx, .int v1] [.int r3, .ref kx] (I, L, ab_RR, n, nc, ns) res
    refine ab_iload_n (i := 1) d_K_netWith_22 rfl rfl ?_
    obtain ⟨r4, hC, h⟩ := h
    refine ab_callV (me2 := mt_K_swapped) (b := kx) (as := [.int r3, .int v1]) (st := []) (rv := (some (.int r4))) (M2 := (I, L, ab_RR, n, nc, ns)) d_K_netWith_23 ce_K_swapped v_1320 v_1322 v_63 (by decide) rfl (Nat.le_of_ble_eq_true rfl) hC (Nat.le_refl _) (Nat.le_refl _) hc hs (fun j h9 => by cases h9) (fun _ _ => rfl) ?_
    show ab_E w (d + 1) mt_K_netWith 26 [.ref kx, .int v1] [.int r4] (I, L, ab_RR, n, nc, ns) res
    exact ab_iret (ty := .int) d_K_netWith_26 rfl rfl h
  · have h := h.2 c2
    refine ab_aload_n (i := 0) d_K_netWith_8 rfl rfl ?_
    refine ab_getR (ci := 10) (k := 6) (j := kx_forest) d_K_netWith_9 v_478 rfl (by decide) (by decide) rfl r_kx_6 ?_
    refine ab_getI (ci := 2) (k := 2) d_K_netWith_12 v_335 rfl (by decide) (by decide) rfl ?_
    exact ab_iret (ty := .int) d_K_netWith_15 rfl rfl h
theorem d_K_netWithout_0 : decode (ab_bc mt_K_netWithout) 0 = .ok (.aload_n 0, 1) := by decide +kernel
theorem d_K_netWithout_1 : decode (ab_bc mt_K_netWithout) 1 = .ok (.iload_n 1, 1) := by decide +kernel
theorem d_K_netWithout_2 : decode (ab_bc mt_K_netWithout) 2 = .ok (.invokevirtual 205, 3) := by decide +kernel
theorem d_K_netWithout_5 : decode (ab_bc mt_K_netWithout) 5 = .ok (.ifCond .eq 14, 3) := by decide +kernel
theorem d_K_netWithout_8 : decode (ab_bc mt_K_netWithout) 8 = .ok (.aload_n 0, 1) := by decide +kernel
theorem d_K_netWithout_9 : decode (ab_bc mt_K_netWithout) 9 = .ok (.iload_n 1, 1) := by decide +kernel
theorem d_K_netWithout_10 : decode (ab_bc mt_K_netWithout) 10 = .ok (.aload_n 0, 1) := by decide +kernel
theorem d_K_netWithout_11 : decode (ab_bc mt_K_netWithout) 11 = .ok (.iload_n 1, 1) := by decide +kernel
theorem d_K_netWithout_12 : decode (ab_bc mt_K_netWithout) 12 = .ok (.invokevirtual 217, 3) := by decide +kernel
theorem d_K_netWithout_15 : decode (ab_bc mt_K_netWithout) 15 = .ok (.invokevirtual 425, 3) := by decide +kernel
theorem d_K_netWithout_18 : decode (ab_bc mt_K_netWithout) 18 = .ok (.ireturn, 1) := by decide +kernel
theorem d_K_netWithout_19 : decode (ab_bc mt_K_netWithout) 19 = .ok (.aload_n 0, 1) := by decide +kernel
theorem d_K_netWithout_20 : decode (ab_bc mt_K_netWithout) 20 = .ok (.getfield 37, 3) := by decide +kernel
theorem d_K_netWithout_23 : decode (ab_bc mt_K_netWithout) 23 = .ok (.getfield 122, 3) := by decide +kernel
theorem d_K_netWithout_26 : decode (ab_bc mt_K_netWithout) 26 = .ok (.ireturn, 1) := by decide +kernel
-- CableKeeper.netWithout(I)I over kx
theorem q_K_netWithout_0 {w : ab_Wd} {d n nc ns : Nat} {I : Nat → Nat → Int32} {L : Nat → Nat → Int64} {res : ab_Re} (v1 : Int32) (hc : nc ≤ res.2.2.2.2.2.1) (hs : ns ≤ res.2.2.2.2.2.2)
    (h : ∃ (r1 : Int32), ab_C w d mt_K_isInside [.ref kx, .int v1] (I, L, ab_RR, n, nc, ns) (.inl (some (.int r1)), (I, L, ab_RR, n, nc, ns)) ∧ ((r1 = 0 → (res = (.inl (some (.int (I kx_forest 2))), (I, L, ab_RR, n, nc, ns)))) ∧ (¬ r1 = 0 → (∃ (r3 : Int32), ab_C w d mt_K_rivalOf [.ref kx, .int v1] (I, L, ab_RR, n, nc, ns) (.inl (some (.int r3)), (I, L, ab_RR, n, nc, ns)) ∧ ∃ (r4 : Int32), ab_C w d mt_K_swapped [.ref kx, .int v1, .int r3] (I, L, ab_RR, n, nc, ns) (.inl (some (.int r4)), (I, L, ab_RR, n, nc, ns)) ∧ res = (.inl (some (.int r4)), (I, L, ab_RR, n, nc, ns)))))) : ab_E w (d + 1) mt_K_netWithout 0 [.ref kx, .int v1] [] (I, L, ab_RR, n, nc, ns) res := by
  refine ab_aload_n (i := 0) d_K_netWithout_0 rfl rfl ?_
  refine ab_iload_n (i := 1) d_K_netWithout_1 rfl rfl ?_
  obtain ⟨r1, hC, h⟩ := h
  refine ab_callV (me2 := mt_K_isInside) (b := kx) (as := [.int v1]) (st := []) (rv := (some (.int r1))) (M2 := (I, L, ab_RR, n, nc, ns)) d_K_netWithout_2 ce_K_isInside v_944 v_946 v_30 (by decide) rfl (Nat.le_of_ble_eq_true rfl) hC (Nat.le_refl _) (Nat.le_refl _) hc hs (fun j h9 => by cases h9) (fun _ _ => rfl) ?_
  show ab_E w (d + 1) mt_K_netWithout 5 [.ref kx, .int v1] [.int r1] (I, L, ab_RR, n, nc, ns) res
  refine ab_if_eq (tgt := 19) d_K_netWithout_5 (by decide) (fun c2 => ?_) (fun c2 => ?_)
  · have h := h.1 c2
    refine ab_aload_n (i := 0) d_K_netWithout_19 rfl rfl ?_
    refine ab_getR (ci := 10) (k := 6) (j := kx_forest) d_K_netWithout_20 v_478 rfl (by decide) (by decide) rfl r_kx_6 ?_
    refine ab_getI (ci := 2) (k := 2) d_K_netWithout_23 v_335 rfl (by decide) (by decide) rfl ?_
    exact ab_iret (ty := .int) d_K_netWithout_26 rfl rfl h
  · have h := h.2 c2
    refine ab_aload_n (i := 0) d_K_netWithout_8 rfl rfl ?_
    refine ab_iload_n (i := 1) d_K_netWithout_9 rfl rfl ?_
    refine ab_aload_n (i := 0) d_K_netWithout_10 rfl rfl ?_
    refine ab_iload_n (i := 1) d_K_netWithout_11 rfl rfl ?_
    obtain ⟨r3, hC, h⟩ := h
    refine ab_callV (me2 := mt_K_rivalOf) (b := kx) (as := [.int v1]) (st := [.int v1, .ref kx]) (rv := (some (.int r3))) (M2 := (I, L, ab_RR, n, nc, ns)) d_K_netWithout_12 ce_K_rivalOf v_1083 v_1085 v_45 (by decide) rfl (Nat.le_of_ble_eq_true rfl) hC (Nat.le_refl _) (Nat.le_refl _) hc hs (fun j h9 => by cases h9) (fun _ _ => rfl) ?_
    show ab_E w (d + 1) mt_K_netWithout 15 [.ref kx, .int v1] [.int r3, .int v1, .ref kx] (I, L, ab_RR, n, nc, ns) res
    obtain ⟨r4, hC, h⟩ := h
    refine ab_callV (me2 := mt_K_swapped) (b := kx) (as := [.int v1, .int r3]) (st := []) (rv := (some (.int r4))) (M2 := (I, L, ab_RR, n, nc, ns)) d_K_netWithout_15 ce_K_swapped v_1320 v_1322 v_63 (by decide) rfl (Nat.le_of_ble_eq_true rfl) hC (Nat.le_refl _) (Nat.le_refl _) hc hs (fun j h9 => by cases h9) (fun _ _ => rfl) ?_
    show ab_E w (d + 1) mt_K_netWithout 18 [.ref kx, .int v1] [.int r4] (I, L, ab_RR, n, nc, ns) res
    exact ab_iret (ty := .int) d_K_netWithout_18 rfl rfl h
theorem d_K_swapped_0 : decode (ab_bc mt_K_swapped) 0 = .ok (.aload_n 0, 1) := by decide +kernel
theorem d_K_swapped_1 : decode (ab_bc mt_K_swapped) 1 = .ok (.getfield 37, 3) := by decide +kernel
theorem d_K_swapped_4 : decode (ab_bc mt_K_swapped) 4 = .ok (.getfield 122, 3) := by decide +kernel
theorem d_K_swapped_7 : decode (ab_bc mt_K_swapped) 7 = .ok (.istore_n 3, 1) := by decide +kernel
theorem d_K_swapped_8 : decode (ab_bc mt_K_swapped) 8 = .ok (.iload_n 1, 1) := by decide +kernel
theorem d_K_swapped_9 : decode (ab_bc mt_K_swapped) 9 = .ok (.iconst (-1), 1) := by decide +kernel
theorem d_K_swapped_10 : decode (ab_bc mt_K_swapped) 10 = .ok (.if_icmp .eq 11, 3) := by decide +kernel
theorem d_K_swapped_13 : decode (ab_bc mt_K_swapped) 13 = .ok (.iload_n 3, 1) := by decide +kernel
theorem d_K_swapped_14 : decode (ab_bc mt_K_swapped) 14 = .ok (.iconst 1, 1) := by decide +kernel
theorem d_K_swapped_15 : decode (ab_bc mt_K_swapped) 15 = .ok (.iload_n 1, 1) := by decide +kernel
theorem d_K_swapped_16 : decode (ab_bc mt_K_swapped) 16 = .ok (.ishl, 1) := by decide +kernel
theorem d_K_swapped_17 : decode (ab_bc mt_K_swapped) 17 = .ok (.iconst (-1), 1) := by decide +kernel
theorem d_K_swapped_18 : decode (ab_bc mt_K_swapped) 18 = .ok (.ixor, 1) := by decide +kernel
theorem d_K_swapped_19 : decode (ab_bc mt_K_swapped) 19 = .ok (.iand, 1) := by decide +kernel
theorem d_K_swapped_20 : decode (ab_bc mt_K_swapped) 20 = .ok (.istore_n 3, 1) := by decide +kernel
theorem d_K_swapped_21 : decode (ab_bc mt_K_swapped) 21 = .ok (.iload_n 2, 1) := by decide +kernel
theorem d_K_swapped_22 : decode (ab_bc mt_K_swapped) 22 = .ok (.iconst (-1), 1) := by decide +kernel
theorem d_K_swapped_23 : decode (ab_bc mt_K_swapped) 23 = .ok (.if_icmp .eq 9, 3) := by decide +kernel
theorem d_K_swapped_26 : decode (ab_bc mt_K_swapped) 26 = .ok (.iload_n 3, 1) := by decide +kernel
theorem d_K_swapped_27 : decode (ab_bc mt_K_swapped) 27 = .ok (.iconst 1, 1) := by decide +kernel
theorem d_K_swapped_28 : decode (ab_bc mt_K_swapped) 28 = .ok (.iload_n 2, 1) := by decide +kernel
theorem d_K_swapped_29 : decode (ab_bc mt_K_swapped) 29 = .ok (.ishl, 1) := by decide +kernel
theorem d_K_swapped_30 : decode (ab_bc mt_K_swapped) 30 = .ok (.ior, 1) := by decide +kernel
theorem d_K_swapped_31 : decode (ab_bc mt_K_swapped) 31 = .ok (.istore_n 3, 1) := by decide +kernel
theorem d_K_swapped_32 : decode (ab_bc mt_K_swapped) 32 = .ok (.iload_n 3, 1) := by decide +kernel
theorem d_K_swapped_33 : decode (ab_bc mt_K_swapped) 33 = .ok (.ireturn, 1) := by decide +kernel
-- CableKeeper.swapped(II)I over kx
theorem q_K_swapped_0 {w : ab_Wd} {d n nc ns : Nat} {I : Nat → Nat → Int32} {L : Nat → Nat → Int64} {res : ab_Re} (v1 : Int32) (v2 : Int32) (hc : nc ≤ res.2.2.2.2.2.1) (hs : ns ≤ res.2.2.2.2.2.2)
    (h : ((v1 = (-1) → (ab_E w d mt_K_swapped 21 [.ref kx, .int v1, .int v2, .int (I kx_forest 2)] [] (I, L, ab_RR, n, nc, ns) res)) ∧ (¬ v1 = (-1) → (ab_E w d mt_K_swapped 21 [.ref kx, .int v1, .int v2, .int ((I kx_forest 2) &&& (((1 : Int32) <<< (v1 &&& 31)) ^^^ (-1)))] [] (I, L, ab_RR, n, nc, ns) res)))) : ab_E w d mt_K_swapped 0 [.ref kx, .int v1, .int v2, .null] [] (I, L, ab_RR, n, nc, ns) res := by
  refine ab_aload_n (i := 0) d_K_swapped_0 rfl rfl ?_
  refine ab_getR (ci := 10) (k := 6) (j := kx_forest) d_K_swapped_1 v_478 rfl (by decide) (by decide) rfl r_kx_6 ?_
  refine ab_getI (ci := 2) (k := 2) d_K_swapped_4 v_335 rfl (by decide) (by decide) rfl ?_
  refine ab_istore_n (i := 3) d_K_swapped_7 rfl (by decide) (Or.inr rfl) ?_
  refine ab_iload_n (i := 1) d_K_swapped_8 rfl rfl ?_
  refine ab_iconst (v := (-1)) d_K_swapped_9 rfl ?_
  refine ab_icmp_eq (tgt := 21) d_K_swapped_10 (by decide) (fun c1 => ?_) (fun c1 => ?_)
  · have h := h.1 c1
    exact h
  · have h := h.2 c1
    refine ab_iload_n (i := 3) d_K_swapped_13 rfl rfl ?_
    refine ab_iconst (v := 1) d_K_swapped_14 rfl ?_
    refine ab_iload_n (i := 1) d_K_swapped_15 rfl rfl ?_
    refine ab_ishl d_K_swapped_16 ?_
    refine ab_iconst (v := (-1)) d_K_swapped_17 rfl ?_
    refine ab_ixor d_K_swapped_18 ?_
    refine ab_iand d_K_swapped_19 ?_
    refine ab_istore_n (i := 3) d_K_swapped_20 rfl (by decide) (Or.inr rfl) ?_
    exact h
theorem q_K_swapped_21 {w : ab_Wd} {d n nc ns : Nat} {I : Nat → Nat → Int32} {L : Nat → Nat → Int64} {res : ab_Re} (v1 : Int32) (v2 : Int32) (v3 : Int32) (hc : nc ≤ res.2.2.2.2.2.1) (hs : ns ≤ res.2.2.2.2.2.2)
    (h : ((v2 = (-1) → (ab_E w d mt_K_swapped 32 [.ref kx, .int v1, .int v2, .int v3] [] (I, L, ab_RR, n, nc, ns) res)) ∧ (¬ v2 = (-1) → (ab_E w d mt_K_swapped 32 [.ref kx, .int v1, .int v2, .int (v3 ||| ((1 : Int32) <<< (v2 &&& 31)))] [] (I, L, ab_RR, n, nc, ns) res)))) : ab_E w d mt_K_swapped 21 [.ref kx, .int v1, .int v2, .int v3] [] (I, L, ab_RR, n, nc, ns) res := by
  refine ab_iload_n (i := 2) d_K_swapped_21 rfl rfl ?_
  refine ab_iconst (v := (-1)) d_K_swapped_22 rfl ?_
  refine ab_icmp_eq (tgt := 32) d_K_swapped_23 (by decide) (fun c1 => ?_) (fun c1 => ?_)
  · have h := h.1 c1
    exact h
  · have h := h.2 c1
    refine ab_iload_n (i := 3) d_K_swapped_26 rfl rfl ?_
    refine ab_iconst (v := 1) d_K_swapped_27 rfl ?_
    refine ab_iload_n (i := 2) d_K_swapped_28 rfl rfl ?_
    refine ab_ishl d_K_swapped_29 ?_
    refine ab_ior d_K_swapped_30 ?_
    refine ab_istore_n (i := 3) d_K_swapped_31 rfl (by decide) (Or.inr rfl) ?_
    exact h
theorem q_K_swapped_32 {w : ab_Wd} {d n nc ns : Nat} {I : Nat → Nat → Int32} {L : Nat → Nat → Int64} {res : ab_Re} (v1 : Int32) (v2 : Int32) (v3 : Int32) (hc : nc ≤ res.2.2.2.2.2.1) (hs : ns ≤ res.2.2.2.2.2.2)
    (h : res = (.inl (some (.int v3)), (I, L, ab_RR, n, nc, ns))) : ab_E w d mt_K_swapped 32 [.ref kx, .int v1, .int v2, .int v3] [] (I, L, ab_RR, n, nc, ns) res := by
  refine ab_iload_n (i := 3) d_K_swapped_32 rfl rfl ?_
  exact ab_iret (ty := .int) d_K_swapped_33 rfl rfl h
