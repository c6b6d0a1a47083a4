theorem d_Ways_connect_0 : decode (ab_bc mt_Ways_connect) 0 = .ok (.aload_n 0, 1) := by decide +kernel
theorem d_Ways_connect_1 : decode (ab_bc mt_Ways_connect) 1 = .ok (.aload_n 1, 1) := by decide +kernel
theorem d_Ways_connect_2 : decode (ab_bc mt_Ways_connect) 2 = .ok (.getfield 47, 3) := by decide +kernel
theorem d_Ways_connect_5 : decode (ab_bc mt_Ways_connect) 5 = .ok (.iload_n 2, 1) := by decide +kernel
theorem d_Ways_connect_6 : decode (ab_bc mt_Ways_connect) 6 = .ok (.iaload, 1) := by decide +kernel
theorem d_Ways_connect_7 : decode (ab_bc mt_Ways_connect) 7 = .ok (.invokevirtual 50, 3) := by decide +kernel
theorem d_Ways_connect_10 : decode (ab_bc mt_Ways_connect) 10 = .ok (.istore_n 3, 1) := by decide +kernel
theorem d_Ways_connect_11 : decode (ab_bc mt_Ways_connect) 11 = .ok (.aload_n 0, 1) := by decide +kernel
theorem d_Ways_connect_12 : decode (ab_bc mt_Ways_connect) 12 = .ok (.aload_n 1, 1) := by decide +kernel
theorem d_Ways_connect_13 : decode (ab_bc mt_Ways_connect) 13 = .ok (.getfield 54, 3) := by decide +kernel
theorem d_Ways_connect_16 : decode (ab_bc mt_Ways_connect) 16 = .ok (.iload_n 2, 1) := by decide +kernel
theorem d_Ways_connect_17 : decode (ab_bc mt_Ways_connect) 17 = .ok (.iaload, 1) := by decide +kernel
theorem d_Ways_connect_18 : decode (ab_bc mt_Ways_connect) 18 = .ok (.invokevirtual 50, 3) := by decide +kernel
theorem d_Ways_connect_21 : decode (ab_bc mt_Ways_connect) 21 = .ok (.istore 4, 2) := by decide +kernel
theorem d_Ways_connect_23 : decode (ab_bc mt_Ways_connect) 23 = .ok (.iconst 0, 1) := by decide +kernel
theorem d_Ways_connect_24 : decode (ab_bc mt_Ways_connect) 24 = .ok (.istore 5, 2) := by decide +kernel
theorem d_Ways_connect_26 : decode (ab_bc mt_Ways_connect) 26 = .ok (.iload 5, 2) := by decide +kernel
theorem d_Ways_connect_28 : decode (ab_bc mt_Ways_connect) 28 = .ok (.aload_n 0, 1) := by decide +kernel
theorem d_Ways_connect_29 : decode (ab_bc mt_Ways_connect) 29 = .ok (.getfield 9, 3) := by decide +kernel
theorem d_Ways_connect_32 : decode (ab_bc mt_Ways_connect) 32 = .ok (.if_icmp .ge 70, 3) := by decide +kernel
theorem d_Ways_connect_35 : decode (ab_bc mt_Ways_connect) 35 = .ok (.iload_n 3, 1) := by decide +kernel
theorem d_Ways_connect_36 : decode (ab_bc mt_Ways_connect) 36 = .ok (.iload 5, 2) := by decide +kernel
theorem d_Ways_connect_38 : decode (ab_bc mt_Ways_connect) 38 = .ok (.ishr, 1) := by decide +kernel
theorem d_Ways_connect_39 : decode (ab_bc mt_Ways_connect) 39 = .ok (.iconst 1, 1) := by decide +kernel
theorem d_Ways_connect_40 : decode (ab_bc mt_Ways_connect) 40 = .ok (.iand, 1) := by decide +kernel
theorem d_Ways_connect_41 : decode (ab_bc mt_Ways_connect) 41 = .ok (.iconst 1, 1) := by decide +kernel
theorem d_Ways_connect_42 : decode (ab_bc mt_Ways_connect) 42 = .ok (.if_icmp .ne 7, 3) := by decide +kernel
theorem d_Ways_connect_45 : decode (ab_bc mt_Ways_connect) 45 = .ok (.iconst 1, 1) := by decide +kernel
theorem d_Ways_connect_46 : decode (ab_bc mt_Ways_connect) 46 = .ok (.goto 4, 3) := by decide +kernel
theorem d_Ways_connect_49 : decode (ab_bc mt_Ways_connect) 49 = .ok (.iconst 0, 1) := by decide +kernel
theorem d_Ways_connect_50 : decode (ab_bc mt_Ways_connect) 50 = .ok (.istore 6, 2) := by decide +kernel
theorem d_Ways_connect_52 : decode (ab_bc mt_Ways_connect) 52 = .ok (.iconst 0, 1) := by decide +kernel
theorem d_Ways_connect_53 : decode (ab_bc mt_Ways_connect) 53 = .ok (.istore 7, 2) := by decide +kernel
theorem d_Ways_connect_55 : decode (ab_bc mt_Ways_connect) 55 = .ok (.iload 7, 2) := by decide +kernel
theorem d_Ways_connect_57 : decode (ab_bc mt_Ways_connect) 57 = .ok (.aload_n 0, 1) := by decide +kernel
theorem d_Ways_connect_58 : decode (ab_bc mt_Ways_connect) 58 = .ok (.getfield 9, 3) := by decide +kernel
theorem d_Ways_connect_61 : decode (ab_bc mt_Ways_connect) 61 = .ok (.if_icmp .ge 35, 3) := by decide +kernel
theorem d_Ways_connect_64 : decode (ab_bc mt_Ways_connect) 64 = .ok (.iload 6, 2) := by decide +kernel
theorem d_Ways_connect_66 : decode (ab_bc mt_Ways_connect) 66 = .ok (.ifCond .eq 30, 3) := by decide +kernel
theorem d_Ways_connect_69 : decode (ab_bc mt_Ways_connect) 69 = .ok (.iload 4, 2) := by decide +kernel
theorem d_Ways_connect_71 : decode (ab_bc mt_Ways_connect) 71 = .ok (.iload 7, 2) := by decide +kernel
theorem d_Ways_connect_73 : decode (ab_bc mt_Ways_connect) 73 = .ok (.ishr, 1) := by decide +kernel
theorem d_Ways_connect_74 : decode (ab_bc mt_Ways_connect) 74 = .ok (.iconst 1, 1) := by decide +kernel
theorem d_Ways_connect_75 : decode (ab_bc mt_Ways_connect) 75 = .ok (.iand, 1) := by decide +kernel
theorem d_Ways_connect_76 : decode (ab_bc mt_Ways_connect) 76 = .ok (.iconst 1, 1) := by decide +kernel
theorem d_Ways_connect_77 : decode (ab_bc mt_Ways_connect) 77 = .ok (.if_icmp .ne 13, 3) := by decide +kernel
theorem d_Ways_connect_80 : decode (ab_bc mt_Ways_connect) 80 = .ok (.aload_n 0, 1) := by decide +kernel
theorem d_Ways_connect_81 : decode (ab_bc mt_Ways_connect) 81 = .ok (.aload_n 1, 1) := by decide +kernel
theorem d_Ways_connect_82 : decode (ab_bc mt_Ways_connect) 82 = .ok (.iload_n 2, 1) := by decide +kernel
theorem d_Ways_connect_83 : decode (ab_bc mt_Ways_connect) 83 = .ok (.iload 5, 2) := by decide +kernel
theorem d_Ways_connect_85 : decode (ab_bc mt_Ways_connect) 85 = .ok (.iload 7, 2) := by decide +kernel
theorem d_Ways_connect_87 : decode (ab_bc mt_Ways_connect) 87 = .ok (.invokevirtual 57, 3) := by decide +kernel
theorem d_Ways_connect_90 : decode (ab_bc mt_Ways_connect) 90 = .ok (.iinc 7 1, 3) := by decide +kernel
theorem d_Ways_connect_93 : decode (ab_bc mt_Ways_connect) 93 = .ok (.goto (-38), 3) := by decide +kernel
theorem d_Ways_connect_96 : decode (ab_bc mt_Ways_connect) 96 = .ok (.iinc 5 1, 3) := by decide +kernel
theorem d_Ways_connect_99 : decode (ab_bc mt_Ways_connect) 99 = .ok (.goto (-73), 3) := by decide +kernel
theorem d_Ways_connect_102 : decode (ab_bc mt_Ways_connect) 102 = .ok (.return_, 1) := by decide +kernel
-- CableKeeper$Ways.connect(LCableKeeper$Cables;I)V over kx_ways, kx_now_cables
theorem q_Ways_connect_0 {w : ab_Wd} {d n nc ns : Nat} {I : Nat → Nat → Int32} {L : Nat → Nat → Int64} {res : ab_Re} (v2 : Int32) (hc : nc ≤ res.2.2.2.2.2.1) (hs : ns ≤ res.2.2.2.2.2.2)
    (h : (vp_in v2 24) ∧ ∃ (r2 : Int32), ab_C w d mt_Ways_joinedWith [.ref kx_ways, .int (I kx_now_cables_first v2.toNatClampNeg)] (I, L, ab_RR, n, nc, ns) (.inl (some (.int r2)), (I, L, ab_RR, n, nc, ns)) ∧ ∃ (r3 : Int32), ab_C w d mt_Ways_joinedWith [.ref kx_ways, .int (I kx_now_cables_second v2.toNatClampNeg)] (I, L, ab_RR, n, nc, ns) (.inl (some (.int r3)), (I, L, ab_RR, n, nc, ns)) ∧ ab_E w (d + 1) mt_Ways_connect 26 [.ref kx_ways, .ref kx_now_cables, .int v2, .int r2, .int r3, .int 0, .null, .null] [] (I, L, ab_RR, n, nc, ns) res) : ab_E w (d + 1) mt_Ways_connect 0 [.ref kx_ways, .ref kx_now_cables, .int v2, .null, .null, .null, .null, .null] [] (I, L, ab_RR, n, nc, ns) res := by
  refine ab_aload_n (i := 0) d_Ways_connect_0 rfl rfl ?_
  refine ab_aload_n (i := 1) d_Ways_connect_1 rfl rfl ?_
  refine ab_getR (ci := 1) (k := 3) (j := kx_now_cables_first) d_Ways_connect_2 v_210 rfl (by decide) (by decide) rfl r_kx_now_cables_3 ?_
  refine ab_iload_n (i := 2) d_Ways_connect_5 rfl rfl ?_
  have g1 := h.1; have h := h.2
  refine ab_iald d_Ways_connect_6 rfl rfl g1 ?_
  obtain ⟨r2, hC, h⟩ := h
  refine ab_callV (me2 := mt_Ways_joinedWith) (b := kx_ways) (as := [.int (I kx_now_cables_first v2.toNatClampNeg)]) (st := []) (rv := (some (.int r2))) (M2 := (I, L, ab_RR, n, nc, ns)) d_Ways_connect_7 ce_Ways_joinedWith v_464 v_466 v_2 (by decide) rfl (Nat.le_of_ble_eq_true rfl) hC (Nat.le_refl _) (Nat.le_refl _) hc hs (fun j h9 => by cases h9) (fun _ _ => rfl) ?_
  show ab_E w (d + 1) mt_Ways_connect 10 [.ref kx_ways, .ref kx_now_cables, .int v2, .null, .null, .null, .null, .null] [.int r2] (I, L, ab_RR, n, nc, ns) res
  refine ab_istore_n (i := 3) d_Ways_connect_10 rfl (by decide) (Or.inr rfl) ?_
  refine ab_aload_n (i := 0) d_Ways_connect_11 rfl rfl ?_
  refine ab_aload_n (i := 1) d_Ways_connect_12 rfl rfl ?_
  refine ab_getR (ci := 1) (k := 4) (j := kx_now_cables_second) d_Ways_connect_13 v_217 rfl (by decide) (by decide) rfl r_kx_now_cables_4 ?_
  refine ab_iload_n (i := 2) d_Ways_connect_16 rfl rfl ?_
  refine ab_iald d_Ways_connect_17 rfl rfl g1 ?_
  obtain ⟨r3, hC, h⟩ := h
  refine ab_callV (me2 := mt_Ways_joinedWith) (b := kx_ways) (as := [.int (I kx_now_cables_second v2.toNatClampNeg)]) (st := []) (rv := (some (.int r3))) (M2 := (I, L, ab_RR, n, nc, ns)) d_Ways_connect_18 ce_Ways_joinedWith v_464 v_466 v_2 (by decide) rfl (Nat.le_of_ble_eq_true rfl) hC (Nat.le_refl _) (Nat.le_refl _) hc hs (fun j h9 => by cases h9) (fun _ _ => rfl) ?_
  show ab_E w (d + 1) mt_Ways_connect 21 [.ref kx_ways, .ref kx_now_cables, .int v2, .int r2, .null, .null, .null, .null] [.int r3] (I, L, ab_RR, n, nc, ns) res
  refine ab_istore (i := 4) d_Ways_connect_21 (by decide) (Or.inr rfl) ?_
  refine ab_iconst (v := 0) d_Ways_connect_23 rfl ?_
  refine ab_istore (i := 5) d_Ways_connect_24 (by decide) (Or.inr rfl) ?_
  exact h
theorem q_Ways_connect_26 {w : ab_Wd} {d n nc ns : Nat} {I : Nat → Nat → Int32} {L : Nat → Nat → Int64} {res : ab_Re} (v2 : Int32) (v3 : Int32) (v4 : Int32) (v5 : Int32) (hc : nc ≤ res.2.2.2.2.2.1) (hs : ns ≤ res.2.2.2.2.2.2)
    (h : (((I kx_ways 0) ≤ v5 → (res = (.inl none, (I, L, ab_RR, n, nc, ns)))) ∧ (¬ (I kx_ways 0) ≤ v5 → ((¬ ((v3 >>> (v5 &&& 31)) &&& 1) = 1 → (ab_E w (d + 1) mt_Ways_connect 50 [.ref kx_ways, .ref kx_now_cables, .int v2, .int v3, .int v4, .int v5, .null, .null] [.int 0] (I, L, ab_RR, n, nc, ns) res)) ∧ (((v3 >>> (v5 &&& 31)) &&& 1) = 1 → (ab_E w (d + 1) mt_Ways_connect 50 [.ref kx_ways, .ref kx_now_cables, .int v2, .int v3, .int v4, .int v5, .null, .null] [.int 1] (I, L, ab_RR, n, nc, ns) res)))))) : ab_E w (d + 1) mt_Ways_connect 26 [.ref kx_ways, .ref kx_now_cables, .int v2, .int v3, .int v4, .int v5, .null, .null] [] (I, L, ab_RR, n, nc, ns) res := by
  refine ab_iload (i := 5) d_Ways_connect_26 rfl ?_
  refine ab_aload_n (i := 0) d_Ways_connect_28 rfl rfl ?_
  refine ab_getI (ci := 9) (k := 0) d_Ways_connect_29 v_361 rfl (by decide) (by decide) rfl ?_
  refine ab_icmp_ge (tgt := 102) d_Ways_connect_32 (by decide) (fun c1 => ?_) (fun c1 => ?_)
  · have h := h.1 c1
    exact ab_vret d_Ways_connect_102 rfl h
  · have h := h.2 c1
    refine ab_iload_n (i := 3) d_Ways_connect_35 rfl rfl ?_
    refine ab_iload (i := 5) d_Ways_connect_36 rfl ?_
    refine ab_ishr d_Ways_connect_38 ?_
    refine ab_iconst (v := 1) d_Ways_connect_39 rfl ?_
    refine ab_iand d_Ways_connect_40 ?_
    refine ab_iconst (v := 1) d_Ways_connect_41 rfl ?_
    refine ab_icmp_ne (tgt := 49) d_Ways_connect_42 (by decide) (fun c2 => ?_) (fun c2 => ?_)
    · have h := h.1 c2
      refine ab_iconst (v := 0) d_Ways_connect_49 rfl ?_
      exact h
    · have h := h.2 c2
      refine ab_iconst (v := 1) d_Ways_connect_45 rfl ?_
      refine ab_goto (tgt := 50) d_Ways_connect_46 (by decide) ?_
      exact h
theorem q_Ways_connect_50 {w : ab_Wd} {d n nc ns : Nat} {I : Nat → Nat → Int32} {L : Nat → Nat → Int64} {res : ab_Re} (v2 : Int32) (v3 : Int32) (v4 : Int32) (v5 : Int32) (s0 : Int32) (hc : nc ≤ res.2.2.2.2.2.1) (hs : ns ≤ res.2.2.2.2.2.2)
    (h : ab_E w (d + 1) mt_Ways_connect 55 [.ref kx_ways, .ref kx_now_cables, .int v2, .int v3, .int v4, .int v5, .int s0, .int 0] [] (I, L, ab_RR, n, nc, ns) res) : ab_E w (d + 1) mt_Ways_connect 50 [.ref kx_ways, .ref kx_now_cables, .int v2, .int v3, .int v4, .int v5, .null, .null] [.int s0] (I, L, ab_RR, n, nc, ns) res := by
  refine ab_istore (i := 6) d_Ways_connect_50 (by decide) (Or.inr rfl) ?_
  refine ab_iconst (v := 0) d_Ways_connect_52 rfl ?_
  refine ab_istore (i := 7) d_Ways_connect_53 (by decide) (Or.inr rfl) ?_
  exact h
theorem q_Ways_connect_55 {w : ab_Wd} {d n nc ns : Nat} {I : Nat → Nat → Int32} {L : Nat → Nat → Int64} {res : ab_Re} (v2 : Int32) (v3 : Int32) (v4 : Int32) (v5 : Int32) (v6 : Int32) (v7 : Int32) (hc : nc ≤ res.2.2.2.2.2.1) (hs : ns ≤ res.2.2.2.2.2.2)
    (h : (((I kx_ways 0) ≤ v7 → (ab_E w (d + 1) mt_Ways_connect 96 [.ref kx_ways, .ref kx_now_cables, .int v2, .int v3, .int v4, .int v5, .int v6, .int v7] [] (I, L, ab_RR, n, nc, ns) res)) ∧ (¬ (I kx_ways 0) ≤ v7 → ((v6 = 0 → (ab_E w (d + 1) mt_Ways_connect 96 [.ref kx_ways, .ref kx_now_cables, .int v2, .int v3, .int v4, .int v5, .int v6, .int v7] [] (I, L, ab_RR, n, nc, ns) res)) ∧ (¬ v6 = 0 → ((¬ ((v4 >>> (v7 &&& 31)) &&& 1) = 1 → (ab_E w (d + 1) mt_Ways_connect 90 [.ref kx_ways, .ref kx_now_cables, .int v2, .int v3, .int v4, .int v5, .int v6, .int v7] [] (I, L, ab_RR, n, nc, ns) res)) ∧ (((v4 >>> (v7 &&& 31)) &&& 1) = 1 → (∃ (I5 : Nat → Nat → Int32), ab_C w d mt_Ways_link [.ref kx_ways, .ref kx_now_cables, .int v2, .int v5, .int v7] (I, L, ab_RR, n, nc, ns) (.inl none, (I5, L, ab_RR, n, nc, ns)) ∧ ab_E w (d + 1) mt_Ways_connect 90 [.ref kx_ways, .ref kx_now_cables, .int v2, .int v3, .int v4, .int v5, .int v6, .int v7] [] (I5, L, ab_RR, n, nc, ns) res)))))))) : ab_E w (d + 1) mt_Ways_connect 55 [.ref kx_ways, .ref kx_now_cables, .int v2, .int v3, .int v4, .int v5, .int v6, .int v7] [] (I, L, ab_RR, n, nc, ns) res := by
  refine ab_iload (i := 7) d_Ways_connect_55 rfl ?_
  refine ab_aload_n (i := 0) d_Ways_connect_57 rfl rfl ?_
  refine ab_getI (ci := 9) (k := 0) d_Ways_connect_58 v_361 rfl (by decide) (by decide) rfl ?_
  refine ab_icmp_ge (tgt := 96) d_Ways_connect_61 (by decide) (fun c1 => ?_) (fun c1 => ?_)
  · have h := h.1 c1
    exact h
  · have h := h.2 c1
    refine ab_iload (i := 6) d_Ways_connect_64 rfl ?_
    refine ab_if_eq (tgt := 96) d_Ways_connect_66 (by decide) (fun c2 => ?_) (fun c2 => ?_)
    · have h := h.1 c2
      exact h
    · have h := h.2 c2
      refine ab_iload (i := 4) d_Ways_connect_69 rfl ?_
      refine ab_iload (i := 7) d_Ways_connect_71 rfl ?_
      refine ab_ishr d_Ways_connect_73 ?_
      refine ab_iconst (v := 1) d_Ways_connect_74 rfl ?_
      refine ab_iand d_Ways_connect_75 ?_
      refine ab_iconst (v := 1) d_Ways_connect_76 rfl ?_
      refine ab_icmp_ne (tgt := 90) d_Ways_connect_77 (by decide) (fun c3 => ?_) (fun c3 => ?_)
      · have h := h.1 c3
        exact h
      · have h := h.2 c3
        refine ab_aload_n (i := 0) d_Ways_connect_80 rfl rfl ?_
        refine ab_aload_n (i := 1) d_Ways_connect_81 rfl rfl ?_
        refine ab_iload_n (i := 2) d_Ways_connect_82 rfl rfl ?_
        refine ab_iload (i := 5) d_Ways_connect_83 rfl ?_
        refine ab_iload (i := 7) d_Ways_connect_85 rfl ?_
        obtain ⟨I5, hC, h⟩ := h
        refine ab_callV (me2 := mt_Ways_link) (b := kx_ways) (as := [.ref kx_now_cables, .int v2, .int v5, .int v7]) (st := []) (rv := none) (M2 := (I5, L, ab_RR, n, nc, ns)) d_Ways_connect_87 ce_Ways_link v_468 v_470 v_3 (by decide) rfl (Nat.le_of_ble_eq_true rfl) hC (Nat.le_refl _) (Nat.le_refl _) hc hs (fun j h9 => by cases h9) (fun _ _ => rfl) ?_
        show ab_E w (d + 1) mt_Ways_connect 90 [.ref kx_ways, .ref kx_now_cables, .int v2, .int v3, .int v4, .int v5, .int v6, .int v7] [] (I5, L, ab_RR, n, nc, ns) res
        exact h
theorem q_Ways_connect_90 {w : ab_Wd} {d n nc ns : Nat} {I : Nat → Nat → Int32} {L : Nat → Nat → Int64} {res : ab_Re} (v2 : Int32) (v3 : Int32) (v4 : Int32) (v5 : Int32) (v6 : Int32) (v7 : Int32) (hc : nc ≤ res.2.2.2.2.2.1) (hs : ns ≤ res.2.2.2.2.2.2)
    (h : ab_E w (d + 1) mt_Ways_connect 55 [.ref kx_ways, .ref kx_now_cables, .int v2, .int v3, .int v4, .int v5, .int v6, .int (v7 + 1)] [] (I, L, ab_RR, n, nc, ns) res) : ab_E w (d + 1) mt_Ways_connect 90 [.ref kx_ways, .ref kx_now_cables, .int v2, .int v3, .int v4, .int v5, .int v6, .int v7] [] (I, L, ab_RR, n, nc, ns) res := by
  refine ab_iinc (i := 7) (v := (v7 + 1)) d_Ways_connect_90 rfl rfl (by decide) (Or.inr rfl) ?_
  refine ab_goto (tgt := 55) d_Ways_connect_93 (by decide) ?_
  exact h
theorem q_Ways_connect_96 {w : ab_Wd} {d n nc ns : Nat} {I : Nat → Nat → Int32} {L : Nat → Nat → Int64} {res : ab_Re} (v2 : Int32) (v3 : Int32) (v4 : Int32) (v5 : Int32) (v6 : Int32) (v7 : Int32) (hc : nc ≤ res.2.2.2.2.2.1) (hs : ns ≤ res.2.2.2.2.2.2)
    (h : ab_E w (d + 1) mt_Ways_connect 26 [.ref kx_ways, .ref kx_now_cables, .int v2, .int v3, .int v4, .int (v5 + 1), .null, .null] [] (I, L, ab_RR, n, nc, ns) res) : ab_E w (d + 1) mt_Ways_connect 96 [.ref kx_ways, .ref kx_now_cables, .int v2, .int v3, .int v4, .int v5, .int v6, .int v7] [] (I, L, ab_RR, n, nc, ns) res := by
  refine ab_iinc (i := 5) (v := (v5 + 1)) d_Ways_connect_96 rfl rfl (by decide) (Or.inr rfl) ?_
  refine ab_goto (tgt := 26) d_Ways_connect_99 (by decide) ?_
  refine ab_drop 6 ?_
  refine ab_drop 7 ?_
  exact h
theorem d_Ways_joinedWith_0 : decode (ab_bc mt_Ways_joinedWith) 0 = .ok (.iconst 0, 1) := by decide +kernel
theorem d_Ways_joinedWith_1 : decode (ab_bc mt_Ways_joinedWith) 1 = .ok (.istore_n 2, 1) := by decide +kernel
theorem d_Ways_joinedWith_2 : decode (ab_bc mt_Ways_joinedWith) 2 = .ok (.iconst 0, 1) := by decide +kernel
theorem d_Ways_joinedWith_3 : decode (ab_bc mt_Ways_joinedWith) 3 = .ok (.istore_n 3, 1) := by decide +kernel
theorem d_Ways_joinedWith_4 : decode (ab_bc mt_Ways_joinedWith) 4 = .ok (.iload_n 3, 1) := by decide +kernel
theorem d_Ways_joinedWith_5 : decode (ab_bc mt_Ways_joinedWith) 5 = .ok (.aload_n 0, 1) := by decide +kernel
theorem d_Ways_joinedWith_6 : decode (ab_bc mt_Ways_joinedWith) 6 = .ok (.getfield 9, 3) := by decide +kernel
theorem d_Ways_joinedWith_9 : decode (ab_bc mt_Ways_joinedWith) 9 = .ok (.if_icmp .ge 29, 3) := by decide +kernel
theorem d_Ways_joinedWith_12 : decode (ab_bc mt_Ways_joinedWith) 12 = .ok (.aload_n 0, 1) := by decide +kernel
theorem d_Ways_joinedWith_13 : decode (ab_bc mt_Ways_joinedWith) 13 = .ok (.getfield 15, 3) := by decide +kernel
theorem d_Ways_joinedWith_16 : decode (ab_bc mt_Ways_joinedWith) 16 = .ok (.iload_n 1, 1) := by decide +kernel
theorem d_Ways_joinedWith_17 : decode (ab_bc mt_Ways_joinedWith) 17 = .ok (.iload_n 3, 1) := by decide +kernel
theorem d_Ways_joinedWith_18 : decode (ab_bc mt_Ways_joinedWith) 18 = .ok (.invokestatic 28, 3) := by decide +kernel
theorem d_Ways_joinedWith_21 : decode (ab_bc mt_Ways_joinedWith) 21 = .ok (.iaload, 1) := by decide +kernel
theorem d_Ways_joinedWith_22 : decode (ab_bc mt_Ways_joinedWith) 22 = .ok (.iconst (-1), 1) := by decide +kernel
theorem d_Ways_joinedWith_23 : decode (ab_bc mt_Ways_joinedWith) 23 = .ok (.if_icmp .eq 9, 3) := by decide +kernel
theorem d_Ways_joinedWith_26 : decode (ab_bc mt_Ways_joinedWith) 26 = .ok (.iload_n 2, 1) := by decide +kernel
theorem d_Ways_joinedWith_27 : decode (ab_bc mt_Ways_joinedWith) 27 = .ok (.iconst 1, 1) := by decide +kernel
theorem d_Ways_joinedWith_28 : decode (ab_bc mt_Ways_joinedWith) 28 = .ok (.iload_n 3, 1) := by decide +kernel
theorem d_Ways_joinedWith_29 : decode (ab_bc mt_Ways_joinedWith) 29 = .ok (.ishl, 1) := by decide +kernel
theorem d_Ways_joinedWith_30 : decode (ab_bc mt_Ways_joinedWith) 30 = .ok (.ior, 1) := by decide +kernel
theorem d_Ways_joinedWith_31 : decode (ab_bc mt_Ways_joinedWith) 31 = .ok (.istore_n 2, 1) := by decide +kernel
theorem d_Ways_joinedWith_32 : decode (ab_bc mt_Ways_joinedWith) 32 = .ok (.iinc 3 1, 3) := by decide +kernel
theorem d_Ways_joinedWith_35 : decode (ab_bc mt_Ways_joinedWith) 35 = .ok (.goto (-31), 3) := by decide +kernel
theorem d_Ways_joinedWith_38 : decode (ab_bc mt_Ways_joinedWith) 38 = .ok (.iload_n 2, 1) := by decide +kernel
theorem d_Ways_joinedWith_39 : decode (ab_bc mt_Ways_joinedWith) 39 = .ok (.ireturn, 1) := by decide +kernel
-- CableKeeper$Ways.joinedWith(I)I over kx_ways
theorem q_Ways_joinedWith_0 {w : ab_Wd} {d n nc ns : Nat} {I : Nat → Nat → Int32} {L : Nat → Nat → Int64} {res : ab_Re} (v1 : Int32) (hc : nc ≤ res.2.2.2.2.2.1) (hs : ns ≤ res.2.2.2.2.2.2)
    (h : ab_E w (d + 1) mt_Ways_joinedWith 4 [.ref kx_ways, .int v1, .int 0, .int 0] [] (I, L, ab_RR, n, nc, ns) res) : ab_E w (d + 1) mt_Ways_joinedWith 0 [.ref kx_ways, .int v1, .null, .null] [] (I, L, ab_RR, n, nc, ns) res := by
  refine ab_iconst (v := 0) d_Ways_joinedWith_0 rfl ?_
  refine ab_istore_n (i := 2) d_Ways_joinedWith_1 rfl (by decide) (Or.inr rfl) ?_
  refine ab_iconst (v := 0) d_Ways_joinedWith_2 rfl ?_
  refine ab_istore_n (i := 3) d_Ways_joinedWith_3 rfl (by decide) (Or.inr rfl) ?_
  exact h
theorem q_Ways_joinedWith_4 {w : ab_Wd} {d n nc ns : Nat} {I : Nat → Nat → Int32} {L : Nat → Nat → Int64} {res : ab_Re} (v1 : Int32) (v2 : Int32) (v3 : Int32) (hc : nc ≤ res.2.2.2.2.2.1) (hs : ns ≤ res.2.2.2.2.2.2)
    (h : (((I kx_ways 0) ≤ v3 → (res = (.inl (some (.int v2)), (I, L, ab_RR, n, nc, ns)))) ∧ (¬ (I kx_ways 0) ≤ v3 → (∃ (r2 : Int32), ab_C w d mt_Ways_at [.int v1, .int v3] (I, L, ab_RR, n, nc, ns) (.inl (some (.int r2)), (I, L, ab_RR, n, nc, ns)) ∧ (vp_in r2 100) ∧ (((I kx_ways_span r2.toNatClampNeg) = (-1) → (ab_E w (d + 1) mt_Ways_joinedWith 32 [.ref kx_ways, .int v1, .int v2, .int v3] [] (I, L, ab_RR, n, nc, ns) res)) ∧ (¬ (I kx_ways_span r2.toNatClampNeg) = (-1) → (ab_E w (d + 1) mt_Ways_joinedWith 32 [.ref kx_ways, .int v1, .int (v2 ||| ((1 : Int32) <<< (v3 &&& 31))), .int v3] [] (I, L, ab_RR, n, nc, ns) res))))))) : ab_E w (d + 1) mt_Ways_joinedWith 4 [.ref kx_ways, .int v1, .int v2, .int v3] [] (I, L, ab_RR, n, nc, ns) res := by
  refine ab_iload_n (i := 3) d_Ways_joinedWith_4 rfl rfl ?_
  refine ab_aload_n (i := 0) d_Ways_joinedWith_5 rfl rfl ?_
  refine ab_getI (ci := 9) (k := 0) d_Ways_joinedWith_6 v_361 rfl (by decide) (by decide) rfl ?_
  refine ab_icmp_ge (tgt := 38) d_Ways_joinedWith_9 (by decide) (fun c1 => ?_) (fun c1 => ?_)
  · have h := h.1 c1
    refine ab_iload_n (i := 2) d_Ways_joinedWith_38 rfl rfl ?_
    exact ab_iret (ty := .int) d_Ways_joinedWith_39 rfl rfl h
  · have h := h.2 c1
    refine ab_aload_n (i := 0) d_Ways_joinedWith_12 rfl rfl ?_
    refine ab_getR (ci := 9) (k := 1) (j := kx_ways_span) d_Ways_joinedWith_13 v_362 rfl (by decide) (by decide) rfl r_kx_ways_1 ?_
    refine ab_iload_n (i := 1) d_Ways_joinedWith_16 rfl rfl ?_
    refine ab_iload_n (i := 3) d_Ways_joinedWith_17 rfl rfl ?_
    obtain ⟨r2, hC, h⟩ := h
    refine ab_callS (me2 := mt_Ways_at) (as := [.int v1, .int v3]) (st := [.ref kx_ways_span]) (rv := (some (.int r2))) (M2 := (I, L, ab_RR, n, nc, ns)) d_Ways_joinedWith_18 ce_Ways_at ⟨v_458, Or.inl v_457⟩ (Nat.le_of_ble_eq_true rfl) hC (Nat.le_refl _) (Nat.le_refl _) hc hs (fun j h9 => by cases h9) (fun _ _ => rfl) ?_
    show ab_E w (d + 1) mt_Ways_joinedWith 21 [.ref kx_ways, .int v1, .int v2, .int v3] [.int r2, .ref kx_ways_span] (I, L, ab_RR, n, nc, ns) res
    have g3 := h.1; have h := h.2
    refine ab_iald d_Ways_joinedWith_21 rfl rfl g3 ?_
    refine ab_iconst (v := (-1)) d_Ways_joinedWith_22 rfl ?_
    refine ab_icmp_eq (tgt := 32) d_Ways_joinedWith_23 (by decide) (fun c4 => ?_) (fun c4 => ?_)
    · have h := h.1 c4
      exact h
    · have h := h.2 c4
      refine ab_iload_n (i := 2) d_Ways_joinedWith_26 rfl rfl ?_
      refine ab_iconst (v := 1) d_Ways_joinedWith_27 rfl ?_
      refine ab_iload_n (i := 3) d_Ways_joinedWith_28 rfl rfl ?_
      refine ab_ishl d_Ways_joinedWith_29 ?_
      refine ab_ior d_Ways_joinedWith_30 ?_
      refine ab_istore_n (i := 2) d_Ways_joinedWith_31 rfl (by decide) (Or.inr rfl) ?_
      exact h
theorem q_Ways_joinedWith_32 {w : ab_Wd} {d n nc ns : Nat} {I : Nat → Nat → Int32} {L : Nat → Nat → Int64} {res : ab_Re} (v1 : Int32) (v2 : Int32) (v3 : Int32) (hc : nc ≤ res.2.2.2.2.2.1) (hs : ns ≤ res.2.2.2.2.2.2)
    (h : ab_E w (d + 1) mt_Ways_joinedWith 4 [.ref kx_ways, .int v1, .int v2, .int (v3 + 1)] [] (I, L, ab_RR, n, nc, ns) res) : ab_E w (d + 1) mt_Ways_joinedWith 32 [.ref kx_ways, .int v1, .int v2, .int v3] [] (I, L, ab_RR, n, nc, ns) res := by
  refine ab_iinc (i := 3) (v := (v3 + 1)) d_Ways_joinedWith_32 rfl rfl (by decide) (Or.inr rfl) ?_
  refine ab_goto (tgt := 4) d_Ways_joinedWith_35 (by decide) ?_
  exact h
