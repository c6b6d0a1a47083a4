theorem d_Cables_sort_0 : decode (ab_bc mt_Cables_sort) 0 = .ok (.iconst 0, 1) := by decide +kernel
theorem d_Cables_sort_1 : decode (ab_bc mt_Cables_sort) 1 = .ok (.istore_n 1, 1) := by decide +kernel
theorem d_Cables_sort_2 : decode (ab_bc mt_Cables_sort) 2 = .ok (.iload_n 1, 1) := by decide +kernel
theorem d_Cables_sort_3 : decode (ab_bc mt_Cables_sort) 3 = .ok (.aload_n 0, 1) := by decide +kernel
theorem d_Cables_sort_4 : decode (ab_bc mt_Cables_sort) 4 = .ok (.getfield 15, 3) := by decide +kernel
theorem d_Cables_sort_7 : decode (ab_bc mt_Cables_sort) 7 = .ok (.if_icmp .ge 64, 3) := by decide +kernel
theorem d_Cables_sort_10 : decode (ab_bc mt_Cables_sort) 10 = .ok (.iload_n 1, 1) := by decide +kernel
theorem d_Cables_sort_11 : decode (ab_bc mt_Cables_sort) 11 = .ok (.istore_n 2, 1) := by decide +kernel
theorem d_Cables_sort_12 : decode (ab_bc mt_Cables_sort) 12 = .ok (.iload_n 2, 1) := by decide +kernel
theorem d_Cables_sort_13 : decode (ab_bc mt_Cables_sort) 13 = .ok (.ifCond .le 45, 3) := by decide +kernel
theorem d_Cables_sort_16 : decode (ab_bc mt_Cables_sort) 16 = .ok (.aload_n 0, 1) := by decide +kernel
theorem d_Cables_sort_17 : decode (ab_bc mt_Cables_sort) 17 = .ok (.getfield 28, 3) := by decide +kernel
theorem d_Cables_sort_20 : decode (ab_bc mt_Cables_sort) 20 = .ok (.aload_n 0, 1) := by decide +kernel
theorem d_Cables_sort_21 : decode (ab_bc mt_Cables_sort) 21 = .ok (.getfield 34, 3) := by decide +kernel
theorem d_Cables_sort_24 : decode (ab_bc mt_Cables_sort) 24 = .ok (.iload_n 2, 1) := by decide +kernel
theorem d_Cables_sort_25 : decode (ab_bc mt_Cables_sort) 25 = .ok (.iconst 1, 1) := by decide +kernel
theorem d_Cables_sort_26 : decode (ab_bc mt_Cables_sort) 26 = .ok (.isub, 1) := by decide +kernel
theorem d_Cables_sort_27 : decode (ab_bc mt_Cables_sort) 27 = .ok (.iaload, 1) := by decide +kernel
theorem d_Cables_sort_28 : decode (ab_bc mt_Cables_sort) 28 = .ok (.iaload, 1) := by decide +kernel
theorem d_Cables_sort_29 : decode (ab_bc mt_Cables_sort) 29 = .ok (.aload_n 0, 1) := by decide +kernel
theorem d_Cables_sort_30 : decode (ab_bc mt_Cables_sort) 30 = .ok (.getfield 28, 3) := by decide +kernel
theorem d_Cables_sort_33 : decode (ab_bc mt_Cables_sort) 33 = .ok (.iload_n 1, 1) := by decide +kernel
theorem d_Cables_sort_34 : decode (ab_bc mt_Cables_sort) 34 = .ok (.iaload, 1) := by decide +kernel
theorem d_Cables_sort_35 : decode (ab_bc mt_Cables_sort) 35 = .ok (.if_icmp .le 23, 3) := by decide +kernel
theorem d_Cables_sort_38 : decode (ab_bc mt_Cables_sort) 38 = .ok (.aload_n 0, 1) := by decide +kernel
theorem d_Cables_sort_39 : decode (ab_bc mt_Cables_sort) 39 = .ok (.getfield 34, 3) := by decide +kernel
theorem d_Cables_sort_42 : decode (ab_bc mt_Cables_sort) 42 = .ok (.iload_n 2, 1) := by decide +kernel
theorem d_Cables_sort_43 : decode (ab_bc mt_Cables_sort) 43 = .ok (.aload_n 0, 1) := by decide +kernel
theorem d_Cables_sort_44 : decode (ab_bc mt_Cables_sort) 44 = .ok (.getfield 34, 3) := by decide +kernel
theorem d_Cables_sort_47 : decode (ab_bc mt_Cables_sort) 47 = .ok (.iload_n 2, 1) := by decide +kernel
theorem d_Cables_sort_48 : decode (ab_bc mt_Cables_sort) 48 = .ok (.iconst 1, 1) := by decide +kernel
theorem d_Cables_sort_49 : decode (ab_bc mt_Cables_sort) 49 = .ok (.isub, 1) := by decide +kernel
theorem d_Cables_sort_50 : decode (ab_bc mt_Cables_sort) 50 = .ok (.iaload, 1) := by decide +kernel
theorem d_Cables_sort_51 : decode (ab_bc mt_Cables_sort) 51 = .ok (.iastore, 1) := by decide +kernel
theorem d_Cables_sort_52 : decode (ab_bc mt_Cables_sort) 52 = .ok (.iinc 2 (-1), 3) := by decide +kernel
theorem d_Cables_sort_55 : decode (ab_bc mt_Cables_sort) 55 = .ok (.goto (-43), 3) := by decide +kernel
theorem d_Cables_sort_58 : decode (ab_bc mt_Cables_sort) 58 = .ok (.aload_n 0, 1) := by decide +kernel
theorem d_Cables_sort_59 : decode (ab_bc mt_Cables_sort) 59 = .ok (.getfield 34, 3) := by decide +kernel
theorem d_Cables_sort_62 : decode (ab_bc mt_Cables_sort) 62 = .ok (.iload_n 2, 1) := by decide +kernel
theorem d_Cables_sort_63 : decode (ab_bc mt_Cables_sort) 63 = .ok (.iload_n 1, 1) := by decide +kernel
theorem d_Cables_sort_64 : decode (ab_bc mt_Cables_sort) 64 = .ok (.iastore, 1) := by decide +kernel
theorem d_Cables_sort_65 : decode (ab_bc mt_Cables_sort) 65 = .ok (.iinc 1 1, 3) := by decide +kernel
theorem d_Cables_sort_68 : decode (ab_bc mt_Cables_sort) 68 = .ok (.goto (-66), 3) := by decide +kernel
theorem d_Cables_sort_71 : decode (ab_bc mt_Cables_sort) 71 = .ok (.return_, 1) := by decide +kernel
-- CableKeeper$Cables.sort()V over kx_now_cables
theorem q_Cables_sort_0_0 {w : ab_Wd} {d n nc ns : Nat} {I : Nat → Nat → Int32} {L : Nat → Nat → Int64} {res : ab_Re}  (hc : nc ≤ res.2.2.2.2.2.1) (hs : ns ≤ res.2.2.2.2.2.2)
    (h : ab_E w d mt_Cables_sort 2 [.ref kx_now_cables, .int 0, .null] [] (I, L, ab_RR, n, nc, ns) res) : ab_E w d mt_Cables_sort 0 [.ref kx_now_cables, .null, .null] [] (I, L, ab_RR, n, nc, ns) res := by
  refine ab_iconst (v := 0) d_Cables_sort_0 rfl ?_
  refine ab_istore_n (i := 1) d_Cables_sort_1 rfl (by decide) (Or.inr rfl) ?_
  exact h
theorem q_Cables_sort_0_2 {w : ab_Wd} {d n nc ns : Nat} {I : Nat → Nat → Int32} {L : Nat → Nat → Int64} {res : ab_Re} (v1 : Int32) (hc : nc ≤ res.2.2.2.2.2.1) (hs : ns ≤ res.2.2.2.2.2.2)
    (h : (((I kx_now_cables 1) ≤ v1 → (res = (.inl none, (I, L, ab_RR, n, nc, ns)))) ∧ (¬ (I kx_now_cables 1) ≤ v1 → (ab_E w d mt_Cables_sort 12 [.ref kx_now_cables, .int v1, .int v1] [] (I, L, ab_RR, n, nc, ns) res)))) : ab_E w d mt_Cables_sort 2 [.ref kx_now_cables, .int v1, .null] [] (I, L, ab_RR, n, nc, ns) res := by
  refine ab_iload_n (i := 1) d_Cables_sort_2 rfl rfl ?_
  refine ab_aload_n (i := 0) d_Cables_sort_3 rfl rfl ?_
  refine ab_getI (ci := 1) (k := 1) d_Cables_sort_4 v_192 rfl (by decide) (by decide) rfl ?_
  refine ab_icmp_ge (tgt := 71) d_Cables_sort_7 (by decide) (fun c1 => ?_) (fun c1 => ?_)
  · have h := h.1 c1
    exact ab_vret d_Cables_sort_71 rfl h
  · have h := h.2 c1
    refine ab_iload_n (i := 1) d_Cables_sort_10 rfl rfl ?_
    refine ab_istore_n (i := 2) d_Cables_sort_11 rfl (by decide) (Or.inr rfl) ?_
    exact h
theorem q_Cables_sort_0_12 {w : ab_Wd} {d n nc ns : Nat} {I : Nat → Nat → Int32} {L : Nat → Nat → Int64} {res : ab_Re} (v1 : Int32) (v2 : Int32) (hc : nc ≤ res.2.2.2.2.2.1) (hs : ns ≤ res.2.2.2.2.2.2)
    (h : ((v2 ≤ 0 → (ab_E w d mt_Cables_sort 58 [.ref kx_now_cables, .int v1, .int v2] [] (I, L, ab_RR, n, nc, ns) res)) ∧ (¬ v2 ≤ 0 → ((vp_in (v2 - 1) 24) ∧ (vp_in (I kx_now_cables_order (v2 - 1).toNatClampNeg) 24) ∧ (vp_in v1 24) ∧ (((I kx_now_cables_price (I kx_now_cables_order (v2 - 1).toNatClampNeg).toNatClampNeg) ≤ (I kx_now_cables_price v1.toNatClampNeg) → (ab_E w d mt_Cables_sort 58 [.ref kx_now_cables, .int v1, .int v2] [] (I, L, ab_RR, n, nc, ns) res)) ∧ (¬ (I kx_now_cables_price (I kx_now_cables_order (v2 - 1).toNatClampNeg).toNatClampNeg) ≤ (I kx_now_cables_price v1.toNatClampNeg) → ((vp_in (v2 - 1) 24) ∧ (vp_in v2 24) ∧ ab_E w d mt_Cables_sort 12 [.ref kx_now_cables, .int v1, .int (v2 + (-1))] [] ((ab_up I kx_now_cables_order v2.toNatClampNeg (I kx_now_cables_order (v2 - 1).toNatClampNeg)), L, ab_RR, n, nc, ns) res))))))) : ab_E w d mt_Cables_sort 12 [.ref kx_now_cables, .int v1, .int v2] [] (I, L, ab_RR, n, nc, ns) res := by
  refine ab_iload_n (i := 2) d_Cables_sort_12 rfl rfl ?_
  refine ab_if_le (tgt := 58) d_Cables_sort_13 (by decide) (fun c1 => ?_) (fun c1 => ?_)
  · have h := h.1 c1
    exact h
  · have h := h.2 c1
    refine ab_aload_n (i := 0) d_Cables_sort_16 rfl rfl ?_
    refine ab_getR (ci := 1) (k := 5) (j := kx_now_cables_price) d_Cables_sort_17 v_218 rfl (by decide) (by decide) rfl r_kx_now_cables_5 ?_
    refine ab_aload_n (i := 0) d_Cables_sort_20 rfl rfl ?_
    refine ab_getR (ci := 1) (k := 7) (j := kx_now_cables_order) d_Cables_sort_21 v_229 rfl (by decide) (by decide) rfl r_kx_now_cables_7 ?_
    refine ab_iload_n (i := 2) d_Cables_sort_24 rfl rfl ?_
    refine ab_iconst (v := 1) d_Cables_sort_25 rfl ?_
    refine ab_isub d_Cables_sort_26 ?_
    have g2 := h.1; have h := h.2
    refine ab_iald d_Cables_sort_27 rfl rfl g2 ?_
    have g3 := h.1; have h := h.2
    refine ab_iald d_Cables_sort_28 rfl rfl g3 ?_
    refine ab_aload_n (i := 0) d_Cables_sort_29 rfl rfl ?_
    refine ab_getR (ci := 1) (k := 5) (j := kx_now_cables_price) d_Cables_sort_30 v_218 rfl (by decide) (by decide) rfl r_kx_now_cables_5 ?_
    refine ab_iload_n (i := 1) d_Cables_sort_33 rfl rfl ?_
    have g4 := h.1; have h := h.2
    refine ab_iald d_Cables_sort_34 rfl rfl g4 ?_
    refine ab_icmp_le (tgt := 58) d_Cables_sort_35 (by decide) (fun c5 => ?_) (fun c5 => ?_)
    · have h := h.1 c5
      exact h
    · have h := h.2 c5
      refine ab_aload_n (i := 0) d_Cables_sort_38 rfl rfl ?_
      refine ab_getR (ci := 1) (k := 7) (j := kx_now_cables_order) d_Cables_sort_39 v_229 rfl (by decide) (by decide) rfl r_kx_now_cables_7 ?_
      refine ab_iload_n (i := 2) d_Cables_sort_42 rfl rfl ?_
      refine ab_aload_n (i := 0) d_Cables_sort_43 rfl rfl ?_
      refine ab_getR (ci := 1) (k := 7) (j := kx_now_cables_order) d_Cables_sort_44 v_229 rfl (by decide) (by decide) rfl r_kx_now_cables_7 ?_
      refine ab_iload_n (i := 2) d_Cables_sort_47 rfl rfl ?_
      refine ab_iconst (v := 1) d_Cables_sort_48 rfl ?_
      refine ab_isub d_Cables_sort_49 ?_
      have g6 := h.1; have h := h.2
      refine ab_iald d_Cables_sort_50 rfl rfl g6 ?_
      have g7 := h.1; have h := h.2
      refine ab_iast d_Cables_sort_51 rfl rfl g7 ?_
      refine ab_iinc (i := 2) (v := (v2 + (-1))) d_Cables_sort_52 rfl rfl (by decide) (Or.inr rfl) ?_
      refine ab_goto (tgt := 12) d_Cables_sort_55 (by decide) ?_
      exact h
theorem q_Cables_sort_0_58 {w : ab_Wd} {d n nc ns : Nat} {I : Nat → Nat → Int32} {L : Nat → Nat → Int64} {res : ab_Re} (v1 : Int32) (v2 : Int32) (hc : nc ≤ res.2.2.2.2.2.1) (hs : ns ≤ res.2.2.2.2.2.2)
    (h : (vp_in v2 24) ∧ ab_E w d mt_Cables_sort 2 [.ref kx_now_cables, .int (v1 + 1), .null] [] ((ab_up I kx_now_cables_order v2.toNatClampNeg v1), L, ab_RR, n, nc, ns) res) : ab_E w d mt_Cables_sort 58 [.ref kx_now_cables, .int v1, .int v2] [] (I, L, ab_RR, n, nc, ns) res := by
  refine ab_aload_n (i := 0) d_Cables_sort_58 rfl rfl ?_
  refine ab_getR (ci := 1) (k := 7) (j := kx_now_cables_order) d_Cables_sort_59 v_229 rfl (by decide) (by decide) rfl r_kx_now_cables_7 ?_
  refine ab_iload_n (i := 2) d_Cables_sort_62 rfl rfl ?_
  refine ab_iload_n (i := 1) d_Cables_sort_63 rfl rfl ?_
  have g1 := h.1; have h := h.2
  refine ab_iast d_Cables_sort_64 rfl rfl g1 ?_
  refine ab_iinc (i := 1) (v := (v1 + 1)) d_Cables_sort_65 rfl rfl (by decide) (Or.inr rfl) ?_
  refine ab_goto (tgt := 2) d_Cables_sort_68 (by decide) ?_
  refine ab_drop 2 ?_
  exact h
