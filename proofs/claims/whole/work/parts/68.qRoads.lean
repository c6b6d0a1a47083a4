theorem d_Roads_reach_0 : decode (ab_bc mt_Roads_reach) 0 = .ok (.iconst 0, 1) := by decide +kernel
theorem d_Roads_reach_1 : decode (ab_bc mt_Roads_reach) 1 = .ok (.istore 4, 2) := by decide +kernel
theorem d_Roads_reach_3 : decode (ab_bc mt_Roads_reach) 3 = .ok (.iload 4, 2) := by decide +kernel
theorem d_Roads_reach_5 : decode (ab_bc mt_Roads_reach) 5 = .ok (.bipush 10, 2) := by decide +kernel
theorem d_Roads_reach_7 : decode (ab_bc mt_Roads_reach) 7 = .ok (.if_icmp .ge 17, 3) := by decide +kernel
theorem d_Roads_reach_10 : decode (ab_bc mt_Roads_reach) 10 = .ok (.aload_n 0, 1) := by decide +kernel
theorem d_Roads_reach_11 : decode (ab_bc mt_Roads_reach) 11 = .ok (.getfield 25, 3) := by decide +kernel
theorem d_Roads_reach_14 : decode (ab_bc mt_Roads_reach) 14 = .ok (.iload 4, 2) := by decide +kernel
theorem d_Roads_reach_16 : decode (ab_bc mt_Roads_reach) 16 = .ok (.iconst (-1), 1) := by decide +kernel
theorem d_Roads_reach_17 : decode (ab_bc mt_Roads_reach) 17 = .ok (.iastore, 1) := by decide +kernel
theorem d_Roads_reach_18 : decode (ab_bc mt_Roads_reach) 18 = .ok (.iinc 4 1, 3) := by decide +kernel
theorem d_Roads_reach_21 : decode (ab_bc mt_Roads_reach) 21 = .ok (.goto (-18), 3) := by decide +kernel
theorem d_Roads_reach_24 : decode (ab_bc mt_Roads_reach) 24 = .ok (.iconst 1, 1) := by decide +kernel
theorem d_Roads_reach_25 : decode (ab_bc mt_Roads_reach) 25 = .ok (.iload_n 2, 1) := by decide +kernel
theorem d_Roads_reach_26 : decode (ab_bc mt_Roads_reach) 26 = .ok (.ishl, 1) := by decide +kernel
theorem d_Roads_reach_27 : decode (ab_bc mt_Roads_reach) 27 = .ok (.istore 4, 2) := by decide +kernel
theorem d_Roads_reach_29 : decode (ab_bc mt_Roads_reach) 29 = .ok (.iconst 0, 1) := by decide +kernel
theorem d_Roads_reach_30 : decode (ab_bc mt_Roads_reach) 30 = .ok (.istore 5, 2) := by decide +kernel
theorem d_Roads_reach_32 : decode (ab_bc mt_Roads_reach) 32 = .ok (.iload 5, 2) := by decide +kernel
theorem d_Roads_reach_34 : decode (ab_bc mt_Roads_reach) 34 = .ok (.bipush 10, 2) := by decide +kernel
theorem d_Roads_reach_36 : decode (ab_bc mt_Roads_reach) 36 = .ok (.if_icmp .ge 47, 3) := by decide +kernel
theorem d_Roads_reach_39 : decode (ab_bc mt_Roads_reach) 39 = .ok (.iload 4, 2) := by decide +kernel
theorem d_Roads_reach_41 : decode (ab_bc mt_Roads_reach) 41 = .ok (.iload_n 3, 1) := by decide +kernel
theorem d_Roads_reach_42 : decode (ab_bc mt_Roads_reach) 42 = .ok (.ishr, 1) := by decide +kernel
theorem d_Roads_reach_43 : decode (ab_bc mt_Roads_reach) 43 = .ok (.iconst 1, 1) := by decide +kernel
theorem d_Roads_reach_44 : decode (ab_bc mt_Roads_reach) 44 = .ok (.iand, 1) := by decide +kernel
theorem d_Roads_reach_45 : decode (ab_bc mt_Roads_reach) 45 = .ok (.ifCond .ne 38, 3) := by decide +kernel
theorem d_Roads_reach_48 : decode (ab_bc mt_Roads_reach) 48 = .ok (.iconst 0, 1) := by decide +kernel
theorem d_Roads_reach_49 : decode (ab_bc mt_Roads_reach) 49 = .ok (.istore 6, 2) := by decide +kernel
theorem d_Roads_reach_51 : decode (ab_bc mt_Roads_reach) 51 = .ok (.iload 6, 2) := by decide +kernel
theorem d_Roads_reach_53 : decode (ab_bc mt_Roads_reach) 53 = .ok (.aload_n 1, 1) := by decide +kernel
theorem d_Roads_reach_54 : decode (ab_bc mt_Roads_reach) 54 = .ok (.getfield 42, 3) := by decide +kernel
theorem d_Roads_reach_57 : decode (ab_bc mt_Roads_reach) 57 = .ok (.if_icmp .ge 20, 3) := by decide +kernel
theorem d_Roads_reach_60 : decode (ab_bc mt_Roads_reach) 60 = .ok (.aload_n 0, 1) := by decide +kernel
theorem d_Roads_reach_61 : decode (ab_bc mt_Roads_reach) 61 = .ok (.aload_n 1, 1) := by decide +kernel
theorem d_Roads_reach_62 : decode (ab_bc mt_Roads_reach) 62 = .ok (.iload 6, 2) := by decide +kernel
theorem d_Roads_reach_64 : decode (ab_bc mt_Roads_reach) 64 = .ok (.iload 4, 2) := by decide +kernel
theorem d_Roads_reach_66 : decode (ab_bc mt_Roads_reach) 66 = .ok (.invokevirtual 92, 3) := by decide +kernel
theorem d_Roads_reach_69 : decode (ab_bc mt_Roads_reach) 69 = .ok (.istore 4, 2) := by decide +kernel
theorem d_Roads_reach_71 : decode (ab_bc mt_Roads_reach) 71 = .ok (.iinc 6 1, 3) := by decide +kernel
theorem d_Roads_reach_74 : decode (ab_bc mt_Roads_reach) 74 = .ok (.goto (-23), 3) := by decide +kernel
theorem d_Roads_reach_77 : decode (ab_bc mt_Roads_reach) 77 = .ok (.iinc 5 1, 3) := by decide +kernel
theorem d_Roads_reach_80 : decode (ab_bc mt_Roads_reach) 80 = .ok (.goto (-48), 3) := by decide +kernel
theorem d_Roads_reach_83 : decode (ab_bc mt_Roads_reach) 83 = .ok (.iload 4, 2) := by decide +kernel
theorem d_Roads_reach_85 : decode (ab_bc mt_Roads_reach) 85 = .ok (.iload_n 3, 1) := by decide +kernel
theorem d_Roads_reach_86 : decode (ab_bc mt_Roads_reach) 86 = .ok (.ishr, 1) := by decide +kernel
theorem d_Roads_reach_87 : decode (ab_bc mt_Roads_reach) 87 = .ok (.iconst 1, 1) := by decide +kernel
theorem d_Roads_reach_88 : decode (ab_bc mt_Roads_reach) 88 = .ok (.iand, 1) := by decide +kernel
theorem d_Roads_reach_89 : decode (ab_bc mt_Roads_reach) 89 = .ok (.iconst 1, 1) := by decide +kernel
theorem d_Roads_reach_90 : decode (ab_bc mt_Roads_reach) 90 = .ok (.if_icmp .ne 7, 3) := by decide +kernel
theorem d_Roads_reach_93 : decode (ab_bc mt_Roads_reach) 93 = .ok (.iconst 1, 1) := by decide +kernel
theorem d_Roads_reach_94 : decode (ab_bc mt_Roads_reach) 94 = .ok (.goto 4, 3) := by decide +kernel
theorem d_Roads_reach_97 : decode (ab_bc mt_Roads_reach) 97 = .ok (.iconst 0, 1) := by decide +kernel
theorem d_Roads_reach_98 : decode (ab_bc mt_Roads_reach) 98 = .ok (.ireturn, 1) := by decide +kernel
-- CableKeeper$Roads.reach(LCableKeeper$Cables;II)Z over kx_roads, kx_now_cables
theorem q_Roads_reach_0 {w : ab_Wd} {d n nc ns : Nat} {I : Nat → Nat → Int32} {L : Nat → Nat → Int64} {res : ab_Re} (v2 : Int32) (v3 : Int32) (hc : nc ≤ res.2.2.2.2.2.1) (hs : ns ≤ res.2.2.2.2.2.2)
    (h : ab_E w (d + 1) mt_Roads_reach 3 [.ref kx_roads, .ref kx_now_cables, .int v2, .int v3, .int 0, .null, .null] [] (I, L, ab_RR, n, nc, ns) res) : ab_E w (d + 1) mt_Roads_reach 0 [.ref kx_roads, .ref kx_now_cables, .int v2, .int v3, .null, .null, .null] [] (I, L, ab_RR, n, nc, ns) res := by
  refine ab_iconst (v := 0) d_Roads_reach_0 rfl ?_
  refine ab_istore (i := 4) d_Roads_reach_1 (by decide) (Or.inr rfl) ?_
  exact h
theorem q_Roads_reach_3 {w : ab_Wd} {d n nc ns : Nat} {I : Nat → Nat → Int32} {L : Nat → Nat → Int64} {res : ab_Re} (v2 : Int32) (v3 : Int32) (v4 : Int32) (hc : nc ≤ res.2.2.2.2.2.1) (hs : ns ≤ res.2.2.2.2.2.2)
    (h : ((10 ≤ v4 → (ab_E w (d + 1) mt_Roads_reach 32 [.ref kx_roads, .ref kx_now_cables, .int v2, .int v3, .int ((1 : Int32) <<< (v2 &&& 31)), .int 0, .null] [] (I, L, ab_RR, n, nc, ns) res)) ∧ (¬ 10 ≤ v4 → ((vp_in v4 10) ∧ ab_E w (d + 1) mt_Roads_reach 3 [.ref kx_roads, .ref kx_now_cables, .int v2, .int v3, .int (v4 + 1), .null, .null] [] ((ab_up I kx_roads_reachedBy v4.toNatClampNeg (-1)), L, ab_RR, n, nc, ns) res)))) : ab_E w (d + 1) mt_Roads_reach 3 [.ref kx_roads, .ref kx_now_cables, .int v2, .int v3, .int v4, .null, .null] [] (I, L, ab_RR, n, nc, ns) res := by
  refine ab_iload (i := 4) d_Roads_reach_3 rfl ?_
  refine ab_bipush (v := 10) d_Roads_reach_5 rfl ?_
  refine ab_icmp_ge (tgt := 24) d_Roads_reach_7 (by decide) (fun c1 => ?_) (fun c1 => ?_)
  · have h := h.1 c1
    refine ab_iconst (v := 1) d_Roads_reach_24 rfl ?_
    refine ab_iload_n (i := 2) d_Roads_reach_25 rfl rfl ?_
    refine ab_ishl d_Roads_reach_26 ?_
    refine ab_istore (i := 4) d_Roads_reach_27 (by decide) (Or.inr rfl) ?_
    refine ab_iconst (v := 0) d_Roads_reach_29 rfl ?_
    refine ab_istore (i := 5) d_Roads_reach_30 (by decide) (Or.inr rfl) ?_
    exact h
  · have h := h.2 c1
    refine ab_aload_n (i := 0) d_Roads_reach_10 rfl rfl ?_
    refine ab_getR (ci := 5) (k := 4) (j := kx_roads_reachedBy) d_Roads_reach_11 v_389 rfl (by decide) (by decide) rfl r_kx_roads_4 ?_
    refine ab_iload (i := 4) d_Roads_reach_14 rfl ?_
    refine ab_iconst (v := (-1)) d_Roads_reach_16 rfl ?_
    have g2 := h.1; have h := h.2
    refine ab_iast d_Roads_reach_17 rfl rfl g2 ?_
    refine ab_iinc (i := 4) (v := (v4 + 1)) d_Roads_reach_18 rfl rfl (by decide) (Or.inr rfl) ?_
    refine ab_goto (tgt := 3) d_Roads_reach_21 (by decide) ?_
    exact h
theorem q_Roads_reach_32 {w : ab_Wd} {d n nc ns : Nat} {I : Nat → Nat → Int32} {L : Nat → Nat → Int64} {res : ab_Re} (v2 : Int32) (v3 : Int32) (v4 : Int32) (v5 : Int32) (hc : nc ≤ res.2.2.2.2.2.1) (hs : ns ≤ res.2.2.2.2.2.2)
    (h : ((10 ≤ v5 → (ab_E w (d + 1) mt_Roads_reach 83 [.ref kx_roads, .ref kx_now_cables, .int v2, .int v3, .int v4, .int v5, .null] [] (I, L, ab_RR, n, nc, ns) res)) ∧ (¬ 10 ≤ v5 → ((¬ ((v4 >>> (v3 &&& 31)) &&& 1) = 0 → (ab_E w (d + 1) mt_Roads_reach 83 [.ref kx_roads, .ref kx_now_cables, .int v2, .int v3, .int v4, .int v5, .null] [] (I, L, ab_RR, n, nc, ns) res)) ∧ (((v4 >>> (v3 &&& 31)) &&& 1) = 0 → (ab_E w (d + 1) mt_Roads_reach 51 [.ref kx_roads, .ref kx_now_cables, .int v2, .int v3, .int v4, .int v5, .int 0] [] (I, L, ab_RR, n, nc, ns) res)))))) : ab_E w (d + 1) mt_Roads_reach 32 [.ref kx_roads, .ref kx_now_cables, .int v2, .int v3, .int v4, .int v5, .null] [] (I, L, ab_RR, n, nc, ns) res := by
  refine ab_iload (i := 5) d_Roads_reach_32 rfl ?_
  refine ab_bipush (v := 10) d_Roads_reach_34 rfl ?_
  refine ab_icmp_ge (tgt := 83) d_Roads_reach_36 (by decide) (fun c1 => ?_) (fun c1 => ?_)
  · have h := h.1 c1
    exact h
  · have h := h.2 c1
    refine ab_iload (i := 4) d_Roads_reach_39 rfl ?_
    refine ab_iload_n (i := 3) d_Roads_reach_41 rfl rfl ?_
    refine ab_ishr d_Roads_reach_42 ?_
    refine ab_iconst (v := 1) d_Roads_reach_43 rfl ?_
    refine ab_iand d_Roads_reach_44 ?_
    refine ab_if_ne (tgt := 83) d_Roads_reach_45 (by decide) (fun c2 => ?_) (fun c2 => ?_)
    · have h := h.1 c2
      exact h
    · have h := h.2 c2
      refine ab_iconst (v := 0) d_Roads_reach_48 rfl ?_
      refine ab_istore (i := 6) d_Roads_reach_49 (by decide) (Or.inr rfl) ?_
      exact h
theorem q_Roads_reach_51 {w : ab_Wd} {d n nc ns : Nat} {I : Nat → Nat → Int32} {L : Nat → Nat → Int64} {res : ab_Re} (v2 : Int32) (v3 : Int32) (v4 : Int32) (v5 : Int32) (v6 : Int32) (hc : nc ≤ res.2.2.2.2.2.1) (hs : ns ≤ res.2.2.2.2.2.2)
    (h : (((I kx_now_cables 1) ≤ v6 → (ab_E w (d + 1) mt_Roads_reach 32 [.ref kx_roads, .ref kx_now_cables, .int v2, .int v3, .int v4, .int (v5 + 1), .null] [] (I, L, ab_RR, n, nc, ns) res)) ∧ (¬ (I kx_now_cables 1) ≤ v6 → (∃ (r2 : Int32) (I3 : Nat → Nat → Int32), ab_C w d mt_Roads_reachOver [.ref kx_roads, .ref kx_now_cables, .int v6, .int v4] (I, L, ab_RR, n, nc, ns) (.inl (some (.int r2)), (I3, L, ab_RR, n, nc, ns)) ∧ ab_E w (d + 1) mt_Roads_reach 51 [.ref kx_roads, .ref kx_now_cables, .int v2, .int v3, .int r2, .int v5, .int (v6 + 1)] [] (I3, L, ab_RR, n, nc, ns) res)))) : ab_E w (d + 1) mt_Roads_reach 51 [.ref kx_roads, .ref kx_now_cables, .int v2, .int v3, .int v4, .int v5, .int v6] [] (I, L, ab_RR, n, nc, ns) res := by
  refine ab_iload (i := 6) d_Roads_reach_51 rfl ?_
  refine ab_aload_n (i := 1) d_Roads_reach_53 rfl rfl ?_
  refine ab_getI (ci := 1) (k := 1) d_Roads_reach_54 v_196 rfl (by decide) (by decide) rfl ?_
  refine ab_icmp_ge (tgt := 77) d_Roads_reach_57 (by decide) (fun c1 => ?_) (fun c1 => ?_)
  · have h := h.1 c1
    refine ab_iinc (i := 5) (v := (v5 + 1)) d_Roads_reach_77 rfl rfl (by decide) (Or.inr rfl) ?_
    refine ab_goto (tgt := 32) d_Roads_reach_80 (by decide) ?_
    refine ab_drop 6 ?_
    exact h
  · have h := h.2 c1
    refine ab_aload_n (i := 0) d_Roads_reach_60 rfl rfl ?_
    refine ab_aload_n (i := 1) d_Roads_reach_61 rfl rfl ?_
    refine ab_iload (i := 6) d_Roads_reach_62 rfl ?_
    refine ab_iload (i := 4) d_Roads_reach_64 rfl ?_
    obtain ⟨r2, I3, hC, h⟩ := h
    refine ab_callV (me2 := mt_Roads_reachOver) (b := kx_roads) (as := [.ref kx_now_cables, .int v6, .int v4]) (st := []) (rv := (some (.int r2))) (M2 := (I3, L, ab_RR, n, nc, ns)) d_Roads_reach_66 ce_Roads_reachOver v_1163 v_1165 v_53 (by decide) rfl (Nat.le_of_ble_eq_true rfl) hC (Nat.le_refl _) (Nat.le_refl _) hc hs (fun j h9 => by cases h9) (fun _ _ => rfl) ?_
    show ab_E w (d + 1) mt_Roads_reach 69 [.ref kx_roads, .ref kx_now_cables, .int v2, .int v3, .int v4, .int v5, .int v6] [.int r2] (I3, L, ab_RR, n, nc, ns) res
    refine ab_istore (i := 4) d_Roads_reach_69 (by decide) (Or.inr rfl) ?_
    refine ab_iinc (i := 6) (v := (v6 + 1)) d_Roads_reach_71 rfl rfl (by decide) (Or.inr rfl) ?_
    refine ab_goto (tgt := 51) d_Roads_reach_74 (by decide) ?_
    exact h
theorem q_Roads_reach_83 {w : ab_Wd} {d n nc ns : Nat} {I : Nat → Nat → Int32} {L : Nat → Nat → Int64} {res : ab_Re} (v2 : Int32) (v3 : Int32) (v4 : Int32) (v5 : Int32) (hc : nc ≤ res.2.2.2.2.2.1) (hs : ns ≤ res.2.2.2.2.2.2)
    (h : ((¬ ((v4 >>> (v3 &&& 31)) &&& 1) = 1 → (ab_E w (d + 1) mt_Roads_reach 98 [.ref kx_roads, .ref kx_now_cables, .int v2, .int v3, .int v4, .int v5, .null] [.int 0] (I, L, ab_RR, n, nc, ns) res)) ∧ (((v4 >>> (v3 &&& 31)) &&& 1) = 1 → (ab_E w (d + 1) mt_Roads_reach 98 [.ref kx_roads, .ref kx_now_cables, .int v2, .int v3, .int v4, .int v5, .null] [.int 1] (I, L, ab_RR, n, nc, ns) res)))) : ab_E w (d + 1) mt_Roads_reach 83 [.ref kx_roads, .ref kx_now_cables, .int v2, .int v3, .int v4, .int v5, .null] [] (I, L, ab_RR, n, nc, ns) res := by
  refine ab_iload (i := 4) d_Roads_reach_83 rfl ?_
  refine ab_iload_n (i := 3) d_Roads_reach_85 rfl rfl ?_
  refine ab_ishr d_Roads_reach_86 ?_
  refine ab_iconst (v := 1) d_Roads_reach_87 rfl ?_
  refine ab_iand d_Roads_reach_88 ?_
  refine ab_iconst (v := 1) d_Roads_reach_89 rfl ?_
  refine ab_icmp_ne (tgt := 97) d_Roads_reach_90 (by decide) (fun c1 => ?_) (fun c1 => ?_)
  · have h := h.1 c1
    refine ab_iconst (v := 0) d_Roads_reach_97 rfl ?_
    exact h
  · have h := h.2 c1
    refine ab_iconst (v := 1) d_Roads_reach_93 rfl ?_
    refine ab_goto (tgt := 98) d_Roads_reach_94 (by decide) ?_
    exact h
theorem q_Roads_reach_98 {w : ab_Wd} {d n nc ns : Nat} {I : Nat → Nat → Int32} {L : Nat → Nat → Int64} {res : ab_Re} (v2 : Int32) (v3 : Int32) (v4 : Int32) (v5 : Int32) (s0 : Int32) (hc : nc ≤ res.2.2.2.2.2.1) (hs : ns ≤ res.2.2.2.2.2.2)
    (h : (narrow .boolean (.int s0) = .int s0) ∧ res = (.inl (some (.int s0)), (I, L, ab_RR, n, nc, ns))) : ab_E w (d + 1) mt_Roads_reach 98 [.ref kx_roads, .ref kx_now_cables, .int v2, .int v3, .int v4, .int v5, .null] [.int s0] (I, L, ab_RR, n, nc, ns) res := by
  have g := h.1; have h := h.2
  exact ab_iret (ty := .boolean) d_Roads_reach_98 rfl g h
theorem d_Roads_use_0 : decode (ab_bc mt_Roads_use) 0 = .ok (.iload_n 3, 1) := by decide +kernel
theorem d_Roads_use_1 : decode (ab_bc mt_Roads_use) 1 = .ok (.istore 4, 2) := by decide +kernel
theorem d_Roads_use_3 : decode (ab_bc mt_Roads_use) 3 = .ok (.iconst 0, 1) := by decide +kernel
theorem d_Roads_use_4 : decode (ab_bc mt_Roads_use) 4 = .ok (.istore 5, 2) := by decide +kernel
theorem d_Roads_use_6 : decode (ab_bc mt_Roads_use) 6 = .ok (.iload 5, 2) := by decide +kernel
theorem d_Roads_use_8 : decode (ab_bc mt_Roads_use) 8 = .ok (.bipush 10, 2) := by decide +kernel
theorem d_Roads_use_10 : decode (ab_bc mt_Roads_use) 10 = .ok (.if_icmp .ge 68, 3) := by decide +kernel
theorem d_Roads_use_13 : decode (ab_bc mt_Roads_use) 13 = .ok (.iload 4, 2) := by decide +kernel
theorem d_Roads_use_15 : decode (ab_bc mt_Roads_use) 15 = .ok (.iload_n 2, 1) := by decide +kernel
theorem d_Roads_use_16 : decode (ab_bc mt_Roads_use) 16 = .ok (.if_icmp .eq 62, 3) := by decide +kernel
theorem d_Roads_use_19 : decode (ab_bc mt_Roads_use) 19 = .ok (.aload_n 0, 1) := by decide +kernel
theorem d_Roads_use_20 : decode (ab_bc mt_Roads_use) 20 = .ok (.getfield 25, 3) := by decide +kernel
theorem d_Roads_use_23 : decode (ab_bc mt_Roads_use) 23 = .ok (.iload 4, 2) := by decide +kernel
theorem d_Roads_use_25 : decode (ab_bc mt_Roads_use) 25 = .ok (.iaload, 1) := by decide +kernel
theorem d_Roads_use_26 : decode (ab_bc mt_Roads_use) 26 = .ok (.istore 6, 2) := by decide +kernel
theorem d_Roads_use_28 : decode (ab_bc mt_Roads_use) 28 = .ok (.iload 6, 2) := by decide +kernel
theorem d_Roads_use_30 : decode (ab_bc mt_Roads_use) 30 = .ok (.iconst (-1), 1) := by decide +kernel
theorem d_Roads_use_31 : decode (ab_bc mt_Roads_use) 31 = .ok (.if_icmp .ne 4, 3) := by decide +kernel
theorem d_Roads_use_34 : decode (ab_bc mt_Roads_use) 34 = .ok (.return_, 1) := by decide +kernel
theorem d_Roads_use_35 : decode (ab_bc mt_Roads_use) 35 = .ok (.aload_n 0, 1) := by decide +kernel
theorem d_Roads_use_36 : decode (ab_bc mt_Roads_use) 36 = .ok (.getfield 22, 3) := by decide +kernel
theorem d_Roads_use_39 : decode (ab_bc mt_Roads_use) 39 = .ok (.iload 6, 2) := by decide +kernel
theorem d_Roads_use_41 : decode (ab_bc mt_Roads_use) 41 = .ok (.dup2, 1) := by decide +kernel
theorem d_Roads_use_42 : decode (ab_bc mt_Roads_use) 42 = .ok (.iaload, 1) := by decide +kernel
theorem d_Roads_use_43 : decode (ab_bc mt_Roads_use) 43 = .ok (.aload_n 1, 1) := by decide +kernel
theorem d_Roads_use_44 : decode (ab_bc mt_Roads_use) 44 = .ok (.getfield 52, 3) := by decide +kernel
theorem d_Roads_use_47 : decode (ab_bc mt_Roads_use) 47 = .ok (.iload 6, 2) := by decide +kernel
theorem d_Roads_use_49 : decode (ab_bc mt_Roads_use) 49 = .ok (.iaload, 1) := by decide +kernel
theorem d_Roads_use_50 : decode (ab_bc mt_Roads_use) 50 = .ok (.iload 4, 2) := by decide +kernel
theorem d_Roads_use_52 : decode (ab_bc mt_Roads_use) 52 = .ok (.if_icmp .ne 7, 3) := by decide +kernel
theorem d_Roads_use_55 : decode (ab_bc mt_Roads_use) 55 = .ok (.iconst 1, 1) := by decide +kernel
theorem d_Roads_use_56 : decode (ab_bc mt_Roads_use) 56 = .ok (.goto 4, 3) := by decide +kernel
theorem d_Roads_use_59 : decode (ab_bc mt_Roads_use) 59 = .ok (.iconst (-1), 1) := by decide +kernel
theorem d_Roads_use_60 : decode (ab_bc mt_Roads_use) 60 = .ok (.iadd, 1) := by decide +kernel
theorem d_Roads_use_61 : decode (ab_bc mt_Roads_use) 61 = .ok (.iastore, 1) := by decide +kernel
theorem d_Roads_use_62 : decode (ab_bc mt_Roads_use) 62 = .ok (.aload_n 1, 1) := by decide +kernel
theorem d_Roads_use_63 : decode (ab_bc mt_Roads_use) 63 = .ok (.iload 6, 2) := by decide +kernel
theorem d_Roads_use_65 : decode (ab_bc mt_Roads_use) 65 = .ok (.iload 4, 2) := by decide +kernel
theorem d_Roads_use_67 : decode (ab_bc mt_Roads_use) 67 = .ok (.invokevirtual 96, 3) := by decide +kernel
theorem d_Roads_use_70 : decode (ab_bc mt_Roads_use) 70 = .ok (.istore 4, 2) := by decide +kernel
theorem d_Roads_use_72 : decode (ab_bc mt_Roads_use) 72 = .ok (.iinc 5 1, 3) := by decide +kernel
theorem d_Roads_use_75 : decode (ab_bc mt_Roads_use) 75 = .ok (.goto (-69), 3) := by decide +kernel
theorem d_Roads_use_78 : decode (ab_bc mt_Roads_use) 78 = .ok (.return_, 1) := by decide +kernel
-- CableKeeper$Roads.use(LCableKeeper$Cables;II)V over kx_roads, kx_now_cables
theorem q_Roads_use_0 {w : ab_Wd} {d n nc ns : Nat} {I : Nat → Nat → Int32} {L : Nat → Nat → Int64} {res : ab_Re} (v2 : Int32) (v3 : Int32) (hc : nc ≤ res.2.2.2.2.2.1) (hs : ns ≤ res.2.2.2.2.2.2)
    (h : ab_E w (d + 1) mt_Roads_use 6 [.ref kx_roads, .ref kx_now_cables, .int v2, .int v3, .int v3, .int 0, .null] [] (I, L, ab_RR, n, nc, ns) res) : ab_E w (d + 1) mt_Roads_use 0 [.ref kx_roads, .ref kx_now_cables, .int v2, .int v3, .null, .null, .null] [] (I, L, ab_RR, n, nc, ns) res := by
  refine ab_iload_n (i := 3) d_Roads_use_0 rfl rfl ?_
  refine ab_istore (i := 4) d_Roads_use_1 (by decide) (Or.inr rfl) ?_
  refine ab_iconst (v := 0) d_Roads_use_3 rfl ?_
  refine ab_istore (i := 5) d_Roads_use_4 (by decide) (Or.inr rfl) ?_
  exact h
theorem q_Roads_use_6 {w : ab_Wd} {d n nc ns : Nat} {I : Nat → Nat → Int32} {L : Nat → Nat → Int64} {res : ab_Re} (v2 : Int32) (v3 : Int32) (v4 : Int32) (v5 : Int32) (hc : nc ≤ res.2.2.2.2.2.1) (hs : ns ≤ res.2.2.2.2.2.2)
    (h : ((10 ≤ v5 → (ab_E w (d + 1) mt_Roads_use 78 [.ref kx_roads, .ref kx_now_cables, .int v2, .int v3, .int v4, .int v5, .null] [] (I, L, ab_RR, n, nc, ns) res)) ∧ (¬ 10 ≤ v5 → ((v4 = v2 → (ab_E w (d + 1) mt_Roads_use 78 [.ref kx_roads, .ref kx_now_cables, .int v2, .int v3, .int v4, .int v5, .null] [] (I, L, ab_RR, n, nc, ns) res)) ∧ (¬ v4 = v2 → ((vp_in v4 10) ∧ ((¬ (I kx_roads_reachedBy v4.toNatClampNeg) = (-1) → ((vp_in (I kx_roads_reachedBy v4.toNatClampNeg) 24) ∧ ((¬ (I kx_now_cables_second (I kx_roads_reachedBy v4.toNatClampNeg).toNatClampNeg) = v4 → (ab_E w (d + 1) mt_Roads_use 60 [.ref kx_roads, .ref kx_now_cables, .int v2, .int v3, .int v4, .int v5, .int (I kx_roads_reachedBy v4.toNatClampNeg)] [.int (-1), .int (I kx_roads_flow (I kx_roads_reachedBy v4.toNatClampNeg).toNatClampNeg), .int (I kx_roads_reachedBy v4.toNatClampNeg), .ref kx_roads_flow] (I, L, ab_RR, n, nc, ns) res)) ∧ ((I kx_now_cables_second (I kx_roads_reachedBy v4.toNatClampNeg).toNatClampNeg) = v4 → (ab_E w (d + 1) mt_Roads_use 60 [.ref kx_roads, .ref kx_now_cables, .int v2, .int v3, .int v4, .int v5, .int (I kx_roads_reachedBy v4.toNatClampNeg)] [.int 1, .int (I kx_roads_flow (I kx_roads_reachedBy v4.toNatClampNeg).toNatClampNeg), .int (I kx_roads_reachedBy v4.toNatClampNeg), .ref kx_roads_flow] (I, L, ab_RR, n, nc, ns) res))))) ∧ ((I kx_roads_reachedBy v4.toNatClampNeg) = (-1) → (res = (.inl none, (I, L, ab_RR, n, nc, ns))))))))))) : ab_E w (d + 1) mt_Roads_use 6 [.ref kx_roads, .ref kx_now_cables, .int v2, .int v3, .int v4, .int v5, .null] [] (I, L, ab_RR, n, nc, ns) res := by
  refine ab_iload (i := 5) d_Roads_use_6 rfl ?_
  refine ab_bipush (v := 10) d_Roads_use_8 rfl ?_
  refine ab_icmp_ge (tgt := 78) d_Roads_use_10 (by decide) (fun c1 => ?_) (fun c1 => ?_)
  · have h := h.1 c1
    exact h
  · have h := h.2 c1
    refine ab_iload (i := 4) d_Roads_use_13 rfl ?_
    refine ab_iload_n (i := 2) d_Roads_use_15 rfl rfl ?_
    refine ab_icmp_eq (tgt := 78) d_Roads_use_16 (by decide) (fun c2 => ?_) (fun c2 => ?_)
    · have h := h.1 c2
      exact h
    · have h := h.2 c2
      refine ab_aload_n (i := 0) d_Roads_use_19 rfl rfl ?_
      refine ab_getR (ci := 5) (k := 4) (j := kx_roads_reachedBy) d_Roads_use_20 v_389 rfl (by decide) (by decide) rfl r_kx_roads_4 ?_
      refine ab_iload (i := 4) d_Roads_use_23 rfl ?_
      have g3 := h.1; have h := h.2
      refine ab_iald d_Roads_use_25 rfl rfl g3 ?_
      refine ab_istore (i := 6) d_Roads_use_26 (by decide) (Or.inr rfl) ?_
      refine ab_iload (i := 6) d_Roads_use_28 rfl ?_
      refine ab_iconst (v := (-1)) d_Roads_use_30 rfl ?_
      refine ab_icmp_ne (tgt := 35) d_Roads_use_31 (by decide) (fun c4 => ?_) (fun c4 => ?_)
      · have h := h.1 c4
        refine ab_aload_n (i := 0) d_Roads_use_35 rfl rfl ?_
        refine ab_getR (ci := 5) (k := 3) (j := kx_roads_flow) d_Roads_use_36 v_388 rfl (by decide) (by decide) rfl r_kx_roads_3 ?_
        refine ab_iload (i := 6) d_Roads_use_39 rfl ?_
        refine ab_dup2 d_Roads_use_41 ?_
        have g5 := h.1; have h := h.2
        refine ab_iald d_Roads_use_42 rfl rfl g5 ?_
        refine ab_aload_n (i := 1) d_Roads_use_43 rfl rfl ?_
        refine ab_getR (ci := 1) (k := 4) (j := kx_now_cables_second) d_Roads_use_44 v_215 rfl (by decide) (by decide) rfl r_kx_now_cables_4 ?_
        refine ab_iload (i := 6) d_Roads_use_47 rfl ?_
        refine ab_iald d_Roads_use_49 rfl rfl g5 ?_
        refine ab_iload (i := 4) d_Roads_use_50 rfl ?_
        refine ab_icmp_ne (tgt := 59) d_Roads_use_52 (by decide) (fun c6 => ?_) (fun c6 => ?_)
        · have h := h.1 c6
          refine ab_iconst (v := (-1)) d_Roads_use_59 rfl ?_
          exact h
        · have h := h.2 c6
          refine ab_iconst (v := 1) d_Roads_use_55 rfl ?_
          refine ab_goto (tgt := 60) d_Roads_use_56 (by decide) ?_
          exact h
      · have h := h.2 c4
        exact ab_vret d_Roads_use_34 rfl h
theorem q_Roads_use_60 {w : ab_Wd} {d n nc ns : Nat} {I : Nat → Nat → Int32} {L : Nat → Nat → Int64} {res : ab_Re} (v2 : Int32) (v3 : Int32) (v4 : Int32) (v5 : Int32) (v6 : Int32) (s1 : Int32) (s2 : Int32) (s3 : Int32) (hc : nc ≤ res.2.2.2.2.2.1) (hs : ns ≤ res.2.2.2.2.2.2)
    (h : (vp_in s1 24) ∧ ∃ (r2 : Int32), ab_C w d mt_Cables_otherEnd [.ref kx_now_cables, .int v6, .int v4] ((ab_up I kx_roads_flow s1.toNatClampNeg (s2 + s3)), L, ab_RR, n, nc, ns) (.inl (some (.int r2)), ((ab_up I kx_roads_flow s1.toNatClampNeg (s2 + s3)), L, ab_RR, n, nc, ns)) ∧ ab_E w (d + 1) mt_Roads_use 6 [.ref kx_roads, .ref kx_now_cables, .int v2, .int v3, .int r2, .int (v5 + 1), .null] [] ((ab_up I kx_roads_flow s1.toNatClampNeg (s2 + s3)), L, ab_RR, n, nc, ns) res) : ab_E w (d + 1) mt_Roads_use 60 [.ref kx_roads, .ref kx_now_cables, .int v2, .int v3, .int v4, .int v5, .int v6] [.int s3, .int s2, .int s1, .ref kx_roads_flow] (I, L, ab_RR, n, nc, ns) res := by
  refine ab_iadd d_Roads_use_60 ?_
  have g1 := h.1; have h := h.2
  refine ab_iast d_Roads_use_61 rfl rfl g1 ?_
  refine ab_aload_n (i := 1) d_Roads_use_62 rfl rfl ?_
  refine ab_iload (i := 6) d_Roads_use_63 rfl ?_
  refine ab_iload (i := 4) d_Roads_use_65 rfl ?_
  obtain ⟨r2, hC, h⟩ := h
  refine ab_callV (me2 := mt_Cables_otherEnd) (b := kx_now_cables) (as := [.int v6, .int v4]) (st := []) (rv := (some (.int r2))) (M2 := ((ab_up I kx_roads_flow s1.toNatClampNeg (s2 + s3)), L, ab_RR, n, nc, ns)) d_Roads_use_67 ce_Cables_otherEnd v_1171 v_1107 v_1108 (by decide) rfl (Nat.le_of_ble_eq_true rfl) hC (Nat.le_refl _) (Nat.le_refl _) hc hs (fun j h9 => by cases h9) (fun _ _ => rfl) ?_
  show ab_E w (d + 1) mt_Roads_use 70 [.ref kx_roads, .ref kx_now_cables, .int v2, .int v3, .int v4, .int v5, .int v6] [.int r2] ((ab_up I kx_roads_flow s1.toNatClampNeg (s2 + s3)), L, ab_RR, n, nc, ns) res
  refine ab_istore (i := 4) d_Roads_use_70 (by decide) (Or.inr rfl) ?_
  refine ab_iinc (i := 5) (v := (v5 + 1)) d_Roads_use_72 rfl rfl (by decide) (Or.inr rfl) ?_
  refine ab_goto (tgt := 6) d_Roads_use_75 (by decide) ?_
  refine ab_drop 6 ?_
  exact h
theorem q_Roads_use_78 {w : ab_Wd} {d n nc ns : Nat} {I : Nat → Nat → Int32} {L : Nat → Nat → Int64} {res : ab_Re} (v2 : Int32) (v3 : Int32) (v4 : Int32) (v5 : Int32) (hc : nc ≤ res.2.2.2.2.2.1) (hs : ns ≤ res.2.2.2.2.2.2)
    (h : res = (.inl none, (I, L, ab_RR, n, nc, ns))) : ab_E w (d + 1) mt_Roads_use 78 [.ref kx_roads, .ref kx_now_cables, .int v2, .int v3, .int v4, .int v5, .null] [] (I, L, ab_RR, n, nc, ns) res := by
  exact ab_vret d_Roads_use_78 rfl h
theorem d_Roads_orNone_0 : decode (ab_bc mt_Roads_orNone) 0 = .ok (.iload_n 0, 1) := by decide +kernel
theorem d_Roads_orNone_1 : decode (ab_bc mt_Roads_orNone) 1 = .ok (.ldc 37, 2) := by decide +kernel
theorem d_Roads_orNone_3 : decode (ab_bc mt_Roads_orNone) 3 = .ok (.if_icmp .ge 7, 3) := by decide +kernel
theorem d_Roads_orNone_6 : decode (ab_bc mt_Roads_orNone) 6 = .ok (.iload_n 0, 1) := by decide +kernel
theorem d_Roads_orNone_7 : decode (ab_bc mt_Roads_orNone) 7 = .ok (.goto 4, 3) := by decide +kernel
theorem d_Roads_orNone_10 : decode (ab_bc mt_Roads_orNone) 10 = .ok (.iconst (-1), 1) := by decide +kernel
theorem d_Roads_orNone_11 : decode (ab_bc mt_Roads_orNone) 11 = .ok (.ireturn, 1) := by decide +kernel
-- CableKeeper$Roads.orNone(I)I over 
theorem q_Roads_orNone_0 {w : ab_Wd} {d n nc ns : Nat} {I : Nat → Nat → Int32} {L : Nat → Nat → Int64} {res : ab_Re} (v0 : Int32) (hc : nc ≤ res.2.2.2.2.2.1) (hs : ns ≤ res.2.2.2.2.2.2)
    (h : ((1000000 ≤ v0 → (ab_E w d mt_Roads_orNone 11 [.int v0] [.int (-1)] (I, L, ab_RR, n, nc, ns) res)) ∧ (¬ 1000000 ≤ v0 → (ab_E w d mt_Roads_orNone 11 [.int v0] [.int v0] (I, L, ab_RR, n, nc, ns) res)))) : ab_E w d mt_Roads_orNone 0 [.int v0] [] (I, L, ab_RR, n, nc, ns) res := by
  refine ab_iload_n (i := 0) d_Roads_orNone_0 rfl rfl ?_
  refine ab_ldc (v := 1000000) d_Roads_orNone_1 v_1033 ?_
  refine ab_icmp_ge (tgt := 10) d_Roads_orNone_3 (by decide) (fun c1 => ?_) (fun c1 => ?_)
  · have h := h.1 c1
    refine ab_iconst (v := (-1)) d_Roads_orNone_10 rfl ?_
    exact h
  · have h := h.2 c1
    refine ab_iload_n (i := 0) d_Roads_orNone_6 rfl rfl ?_
    refine ab_goto (tgt := 11) d_Roads_orNone_7 (by decide) ?_
    exact h
theorem q_Roads_orNone_11 {w : ab_Wd} {d n nc ns : Nat} {I : Nat → Nat → Int32} {L : Nat → Nat → Int64} {res : ab_Re} (v0 : Int32) (s0 : Int32) (hc : nc ≤ res.2.2.2.2.2.1) (hs : ns ≤ res.2.2.2.2.2.2)
    (h : res = (.inl (some (.int s0)), (I, L, ab_RR, n, nc, ns))) : ab_E w d mt_Roads_orNone 11 [.int v0] [.int s0] (I, L, ab_RR, n, nc, ns) res := by
  exact ab_iret (ty := .int) d_Roads_orNone_11 rfl rfl h
theorem d_Roads_spread_0 : decode (ab_bc mt_Roads_spread) 0 = .ok (.iconst 0, 1) := by decide +kernel
theorem d_Roads_spread_1 : decode (ab_bc mt_Roads_spread) 1 = .ok (.istore_n 2, 1) := by decide +kernel
theorem d_Roads_spread_2 : decode (ab_bc mt_Roads_spread) 2 = .ok (.iload_n 2, 1) := by decide +kernel
theorem d_Roads_spread_3 : decode (ab_bc mt_Roads_spread) 3 = .ok (.aload_n 0, 1) := by decide +kernel
theorem d_Roads_spread_4 : decode (ab_bc mt_Roads_spread) 4 = .ok (.getfield 9, 3) := by decide +kernel
theorem d_Roads_spread_7 : decode (ab_bc mt_Roads_spread) 7 = .ok (.if_icmp .ge 17, 3) := by decide +kernel
theorem d_Roads_spread_10 : decode (ab_bc mt_Roads_spread) 10 = .ok (.aload_n 0, 1) := by decide +kernel
theorem d_Roads_spread_11 : decode (ab_bc mt_Roads_spread) 11 = .ok (.getfield 19, 3) := by decide +kernel
theorem d_Roads_spread_14 : decode (ab_bc mt_Roads_spread) 14 = .ok (.iload_n 2, 1) := by decide +kernel
theorem d_Roads_spread_15 : decode (ab_bc mt_Roads_spread) 15 = .ok (.ldc 37, 2) := by decide +kernel
theorem d_Roads_spread_17 : decode (ab_bc mt_Roads_spread) 17 = .ok (.iastore, 1) := by decide +kernel
theorem d_Roads_spread_18 : decode (ab_bc mt_Roads_spread) 18 = .ok (.iinc 2 1, 3) := by decide +kernel
theorem d_Roads_spread_21 : decode (ab_bc mt_Roads_spread) 21 = .ok (.goto (-19), 3) := by decide +kernel
theorem d_Roads_spread_24 : decode (ab_bc mt_Roads_spread) 24 = .ok (.iload_n 1, 1) := by decide +kernel
theorem d_Roads_spread_25 : decode (ab_bc mt_Roads_spread) 25 = .ok (.istore_n 2, 1) := by decide +kernel
theorem d_Roads_spread_26 : decode (ab_bc mt_Roads_spread) 26 = .ok (.iconst 0, 1) := by decide +kernel
theorem d_Roads_spread_27 : decode (ab_bc mt_Roads_spread) 27 = .ok (.istore_n 3, 1) := by decide +kernel
theorem d_Roads_spread_28 : decode (ab_bc mt_Roads_spread) 28 = .ok (.aload_n 0, 1) := by decide +kernel
theorem d_Roads_spread_29 : decode (ab_bc mt_Roads_spread) 29 = .ok (.iload_n 2, 1) := by decide +kernel
theorem d_Roads_spread_30 : decode (ab_bc mt_Roads_spread) 30 = .ok (.invokevirtual 81, 3) := by decide +kernel
theorem d_Roads_spread_33 : decode (ab_bc mt_Roads_spread) 33 = .ok (.istore 4, 2) := by decide +kernel
theorem d_Roads_spread_35 : decode (ab_bc mt_Roads_spread) 35 = .ok (.iconst 0, 1) := by decide +kernel
theorem d_Roads_spread_36 : decode (ab_bc mt_Roads_spread) 36 = .ok (.istore 5, 2) := by decide +kernel
theorem d_Roads_spread_38 : decode (ab_bc mt_Roads_spread) 38 = .ok (.iload 5, 2) := by decide +kernel
theorem d_Roads_spread_40 : decode (ab_bc mt_Roads_spread) 40 = .ok (.bipush 10, 2) := by decide +kernel
theorem d_Roads_spread_42 : decode (ab_bc mt_Roads_spread) 42 = .ok (.if_icmp .ge 94, 3) := by decide +kernel
theorem d_Roads_spread_45 : decode (ab_bc mt_Roads_spread) 45 = .ok (.iload 4, 2) := by decide +kernel
theorem d_Roads_spread_47 : decode (ab_bc mt_Roads_spread) 47 = .ok (.iconst (-1), 1) := by decide +kernel
theorem d_Roads_spread_48 : decode (ab_bc mt_Roads_spread) 48 = .ok (.if_icmp .eq 88, 3) := by decide +kernel
theorem d_Roads_spread_51 : decode (ab_bc mt_Roads_spread) 51 = .ok (.iload_n 2, 1) := by decide +kernel
theorem d_Roads_spread_52 : decode (ab_bc mt_Roads_spread) 52 = .ok (.iconst 1, 1) := by decide +kernel
theorem d_Roads_spread_53 : decode (ab_bc mt_Roads_spread) 53 = .ok (.iload 4, 2) := by decide +kernel
theorem d_Roads_spread_55 : decode (ab_bc mt_Roads_spread) 55 = .ok (.ishl, 1) := by decide +kernel
theorem d_Roads_spread_56 : decode (ab_bc mt_Roads_spread) 56 = .ok (.iconst (-1), 1) := by decide +kernel
theorem d_Roads_spread_57 : decode (ab_bc mt_Roads_spread) 57 = .ok (.ixor, 1) := by decide +kernel
theorem d_Roads_spread_58 : decode (ab_bc mt_Roads_spread) 58 = .ok (.iand, 1) := by decide +kernel
theorem d_Roads_spread_59 : decode (ab_bc mt_Roads_spread) 59 = .ok (.istore_n 2, 1) := by decide +kernel
theorem d_Roads_spread_60 : decode (ab_bc mt_Roads_spread) 60 = .ok (.iconst 0, 1) := by decide +kernel
theorem d_Roads_spread_61 : decode (ab_bc mt_Roads_spread) 61 = .ok (.istore 6, 2) := by decide +kernel
theorem d_Roads_spread_63 : decode (ab_bc mt_Roads_spread) 63 = .ok (.iload 6, 2) := by decide +kernel
theorem d_Roads_spread_65 : decode (ab_bc mt_Roads_spread) 65 = .ok (.aload_n 0, 1) := by decide +kernel
theorem d_Roads_spread_66 : decode (ab_bc mt_Roads_spread) 66 = .ok (.getfield 9, 3) := by decide +kernel
theorem d_Roads_spread_69 : decode (ab_bc mt_Roads_spread) 69 = .ok (.if_icmp .ge 34, 3) := by decide +kernel
theorem d_Roads_spread_72 : decode (ab_bc mt_Roads_spread) 72 = .ok (.aload_n 0, 1) := by decide +kernel
theorem d_Roads_spread_73 : decode (ab_bc mt_Roads_spread) 73 = .ok (.getfield 19, 3) := by decide +kernel
theorem d_Roads_spread_76 : decode (ab_bc mt_Roads_spread) 76 = .ok (.iload 6, 2) := by decide +kernel
theorem d_Roads_spread_78 : decode (ab_bc mt_Roads_spread) 78 = .ok (.aload_n 0, 1) := by decide +kernel
theorem d_Roads_spread_79 : decode (ab_bc mt_Roads_spread) 79 = .ok (.getfield 19, 3) := by decide +kernel
theorem d_Roads_spread_82 : decode (ab_bc mt_Roads_spread) 82 = .ok (.iload 6, 2) := by decide +kernel
theorem d_Roads_spread_84 : decode (ab_bc mt_Roads_spread) 84 = .ok (.iaload, 1) := by decide +kernel
theorem d_Roads_spread_85 : decode (ab_bc mt_Roads_spread) 85 = .ok (.aload_n 0, 1) := by decide +kernel
theorem d_Roads_spread_86 : decode (ab_bc mt_Roads_spread) 86 = .ok (.iload 4, 2) := by decide +kernel
theorem d_Roads_spread_88 : decode (ab_bc mt_Roads_spread) 88 = .ok (.iload 6, 2) := by decide +kernel
theorem d_Roads_spread_90 : decode (ab_bc mt_Roads_spread) 90 = .ok (.invokevirtual 62, 3) := by decide +kernel
theorem d_Roads_spread_93 : decode (ab_bc mt_Roads_spread) 93 = .ok (.invokestatic 28, 3) := by decide +kernel
theorem d_Roads_spread_96 : decode (ab_bc mt_Roads_spread) 96 = .ok (.iastore, 1) := by decide +kernel
theorem d_Roads_spread_97 : decode (ab_bc mt_Roads_spread) 97 = .ok (.iinc 6 1, 3) := by decide +kernel
theorem d_Roads_spread_100 : decode (ab_bc mt_Roads_spread) 100 = .ok (.goto (-37), 3) := by decide +kernel
theorem d_Roads_spread_103 : decode (ab_bc mt_Roads_spread) 103 = .ok (.aload_n 0, 1) := by decide +kernel
theorem d_Roads_spread_104 : decode (ab_bc mt_Roads_spread) 104 = .ok (.iload_n 2, 1) := by decide +kernel
theorem d_Roads_spread_105 : decode (ab_bc mt_Roads_spread) 105 = .ok (.invokevirtual 81, 3) := by decide +kernel
theorem d_Roads_spread_108 : decode (ab_bc mt_Roads_spread) 108 = .ok (.istore 4, 2) := by decide +kernel
theorem d_Roads_spread_110 : decode (ab_bc mt_Roads_spread) 110 = .ok (.iload_n 3, 1) := by decide +kernel
theorem d_Roads_spread_111 : decode (ab_bc mt_Roads_spread) 111 = .ok (.iload 4, 2) := by decide +kernel
theorem d_Roads_spread_113 : decode (ab_bc mt_Roads_spread) 113 = .ok (.iconst (-1), 1) := by decide +kernel
theorem d_Roads_spread_114 : decode (ab_bc mt_Roads_spread) 114 = .ok (.if_icmp .ne 7, 3) := by decide +kernel
theorem d_Roads_spread_117 : decode (ab_bc mt_Roads_spread) 117 = .ok (.iconst 0, 1) := by decide +kernel
theorem d_Roads_spread_118 : decode (ab_bc mt_Roads_spread) 118 = .ok (.goto 10, 3) := by decide +kernel
theorem d_Roads_spread_121 : decode (ab_bc mt_Roads_spread) 121 = .ok (.aload_n 0, 1) := by decide +kernel
theorem d_Roads_spread_122 : decode (ab_bc mt_Roads_spread) 122 = .ok (.getfield 19, 3) := by decide +kernel
theorem d_Roads_spread_125 : decode (ab_bc mt_Roads_spread) 125 = .ok (.iload 4, 2) := by decide +kernel
theorem d_Roads_spread_127 : decode (ab_bc mt_Roads_spread) 127 = .ok (.iaload, 1) := by decide +kernel
theorem d_Roads_spread_128 : decode (ab_bc mt_Roads_spread) 128 = .ok (.iadd, 1) := by decide +kernel
theorem d_Roads_spread_129 : decode (ab_bc mt_Roads_spread) 129 = .ok (.istore_n 3, 1) := by decide +kernel
theorem d_Roads_spread_130 : decode (ab_bc mt_Roads_spread) 130 = .ok (.iinc 5 1, 3) := by decide +kernel
theorem d_Roads_spread_133 : decode (ab_bc mt_Roads_spread) 133 = .ok (.goto (-95), 3) := by decide +kernel
theorem d_Roads_spread_136 : decode (ab_bc mt_Roads_spread) 136 = .ok (.iload_n 3, 1) := by decide +kernel
theorem d_Roads_spread_137 : decode (ab_bc mt_Roads_spread) 137 = .ok (.ireturn, 1) := by decide +kernel
-- CableKeeper$Roads.spread(I)I over kx_roads
theorem q_Roads_spread_0 {w : ab_Wd} {d n nc ns : Nat} {I : Nat → Nat → Int32} {L : Nat → Nat → Int64} {res : ab_Re} (v1 : Int32) (hc : nc ≤ res.2.2.2.2.2.1) (hs : ns ≤ res.2.2.2.2.2.2)
    (h : ab_E w (d + 1) mt_Roads_spread 2 [.ref kx_roads, .int v1, .int 0, .null, .null, .null, .null] [] (I, L, ab_RR, n, nc, ns) res) : ab_E w (d + 1) mt_Roads_spread 0 [.ref kx_roads, .int v1, .null, .null, .null, .null, .null] [] (I, L, ab_RR, n, nc, ns) res := by
  refine ab_iconst (v := 0) d_Roads_spread_0 rfl ?_
  refine ab_istore_n (i := 2) d_Roads_spread_1 rfl (by decide) (Or.inr rfl) ?_
  exact h
theorem q_Roads_spread_2 {w : ab_Wd} {d n nc ns : Nat} {I : Nat → Nat → Int32} {L : Nat → Nat → Int64} {res : ab_Re} (v1 : Int32) (v2 : Int32) (hc : nc ≤ res.2.2.2.2.2.1) (hs : ns ≤ res.2.2.2.2.2.2)
    (h : (((I kx_roads 0) ≤ v2 → (∃ (r2 : Int32), ab_C w d mt_Roads_nearest [.ref kx_roads, .int v1] (I, L, ab_RR, n, nc, ns) (.inl (some (.int r2)), (I, L, ab_RR, n, nc, ns)) ∧ ab_E w (d + 1) mt_Roads_spread 38 [.ref kx_roads, .int v1, .int v1, .int 0, .int r2, .int 0, .null] [] (I, L, ab_RR, n, nc, ns) res)) ∧ (¬ (I kx_roads 0) ≤ v2 → ((vp_in v2 10) ∧ ab_E w (d + 1) mt_Roads_spread 2 [.ref kx_roads, .int v1, .int (v2 + 1), .null, .null, .null, .null] [] ((ab_up I kx_roads_near v2.toNatClampNeg 1000000), L, ab_RR, n, nc, ns) res)))) : ab_E w (d + 1) mt_Roads_spread 2 [.ref kx_roads, .int v1, .int v2, .null, .null, .null, .null] [] (I, L, ab_RR, n, nc, ns) res := by
  refine ab_iload_n (i := 2) d_Roads_spread_2 rfl rfl ?_
  refine ab_aload_n (i := 0) d_Roads_spread_3 rfl rfl ?_
  refine ab_getI (ci := 5) (k := 0) d_Roads_spread_4 v_385 rfl (by decide) (by decide) rfl ?_
  refine ab_icmp_ge (tgt := 24) d_Roads_spread_7 (by decide) (fun c1 => ?_) (fun c1 => ?_)
  · have h := h.1 c1
    refine ab_iload_n (i := 1) d_Roads_spread_24 rfl rfl ?_
    refine ab_istore_n (i := 2) d_Roads_spread_25 rfl (by decide) (Or.inr rfl) ?_
    refine ab_iconst (v := 0) d_Roads_spread_26 rfl ?_
    refine ab_istore_n (i := 3) d_Roads_spread_27 rfl (by decide) (Or.inr rfl) ?_
    refine ab_aload_n (i := 0) d_Roads_spread_28 rfl rfl ?_
    refine ab_iload_n (i := 2) d_Roads_spread_29 rfl rfl ?_
    obtain ⟨r2, hC, h⟩ := h
    refine ab_callV (me2 := mt_Roads_nearest) (b := kx_roads) (as := [.int v1]) (st := []) (rv := (some (.int r2))) (M2 := (I, L, ab_RR, n, nc, ns)) d_Roads_spread_30 ce_Roads_nearest v_1259 v_1261 v_60 (by decide) rfl (Nat.le_of_ble_eq_true rfl) hC (Nat.le_refl _) (Nat.le_refl _) hc hs (fun j h9 => by cases h9) (fun _ _ => rfl) ?_
    show ab_E w (d + 1) mt_Roads_spread 33 [.ref kx_roads, .int v1, .int v1, .int 0, .null, .null, .null] [.int r2] (I, L, ab_RR, n, nc, ns) res
    refine ab_istore (i := 4) d_Roads_spread_33 (by decide) (Or.inr rfl) ?_
    refine ab_iconst (v := 0) d_Roads_spread_35 rfl ?_
    refine ab_istore (i := 5) d_Roads_spread_36 (by decide) (Or.inr rfl) ?_
    exact h
  · have h := h.2 c1
    refine ab_aload_n (i := 0) d_Roads_spread_10 rfl rfl ?_
    refine ab_getR (ci := 5) (k := 2) (j := kx_roads_near) d_Roads_spread_11 v_387 rfl (by decide) (by decide) rfl r_kx_roads_2 ?_
    refine ab_iload_n (i := 2) d_Roads_spread_14 rfl rfl ?_
    refine ab_ldc (v := 1000000) d_Roads_spread_15 v_1033 ?_
    have g3 := h.1; have h := h.2
    refine ab_iast d_Roads_spread_17 rfl rfl g3 ?_
    refine ab_iinc (i := 2) (v := (v2 + 1)) d_Roads_spread_18 rfl rfl (by decide) (Or.inr rfl) ?_
    refine ab_goto (tgt := 2) d_Roads_spread_21 (by decide) ?_
    exact h
theorem q_Roads_spread_38 {w : ab_Wd} {d n nc ns : Nat} {I : Nat → Nat → Int32} {L : Nat → Nat → Int64} {res : ab_Re} (v1 : Int32) (v2 : Int32) (v3 : Int32) (v4 : Int32) (v5 : Int32) (hc : nc ≤ res.2.2.2.2.2.1) (hs : ns ≤ res.2.2.2.2.2.2)
    (h : ((10 ≤ v5 → (ab_E w (d + 1) mt_Roads_spread 136 [.ref kx_roads, .int v1, .int v2, .int v3, .int v4, .int v5, .null] [] (I, L, ab_RR, n, nc, ns) res)) ∧ (¬ 10 ≤ v5 → ((v4 = (-1) → (ab_E w (d + 1) mt_Roads_spread 136 [.ref kx_roads, .int v1, .int v2, .int v3, .int v4, .int v5, .null] [] (I, L, ab_RR, n, nc, ns) res)) ∧ (¬ v4 = (-1) → (ab_E w (d + 1) mt_Roads_spread 63 [.ref kx_roads, .int v1, .int (v2 &&& (((1 : Int32) <<< (v4 &&& 31)) ^^^ (-1))), .int v3, .int v4, .int v5, .int 0] [] (I, L, ab_RR, n, nc, ns) res)))))) : ab_E w (d + 1) mt_Roads_spread 38 [.ref kx_roads, .int v1, .int v2, .int v3, .int v4, .int v5, .null] [] (I, L, ab_RR, n, nc, ns) res := by
  refine ab_iload (i := 5) d_Roads_spread_38 rfl ?_
  refine ab_bipush (v := 10) d_Roads_spread_40 rfl ?_
  refine ab_icmp_ge (tgt := 136) d_Roads_spread_42 (by decide) (fun c1 => ?_) (fun c1 => ?_)
  · have h := h.1 c1
    exact h
  · have h := h.2 c1
    refine ab_iload (i := 4) d_Roads_spread_45 rfl ?_
    refine ab_iconst (v := (-1)) d_Roads_spread_47 rfl ?_
    refine ab_icmp_eq (tgt := 136) d_Roads_spread_48 (by decide) (fun c2 => ?_) (fun c2 => ?_)
    · have h := h.1 c2
      exact h
    · have h := h.2 c2
      refine ab_iload_n (i := 2) d_Roads_spread_51 rfl rfl ?_
      refine ab_iconst (v := 1) d_Roads_spread_52 rfl ?_
      refine ab_iload (i := 4) d_Roads_spread_53 rfl ?_
      refine ab_ishl d_Roads_spread_55 ?_
      refine ab_iconst (v := (-1)) d_Roads_spread_56 rfl ?_
      refine ab_ixor d_Roads_spread_57 ?_
      refine ab_iand d_Roads_spread_58 ?_
      refine ab_istore_n (i := 2) d_Roads_spread_59 rfl (by decide) (Or.inr rfl) ?_
      refine ab_iconst (v := 0) d_Roads_spread_60 rfl ?_
      refine ab_istore (i := 6) d_Roads_spread_61 (by decide) (Or.inr rfl) ?_
      exact h
theorem q_Roads_spread_63 {w : ab_Wd} {d n nc ns : Nat} {I : Nat → Nat → Int32} {L : Nat → Nat → Int64} {res : ab_Re} (v1 : Int32) (v2 : Int32) (v3 : Int32) (v4 : Int32) (v5 : Int32) (v6 : Int32) (hc : nc ≤ res.2.2.2.2.2.1) (hs : ns ≤ res.2.2.2.2.2.2)
    (h : (((I kx_roads 0) ≤ v6 → (∃ (r2 : Int32), ab_C w d mt_Roads_nearest [.ref kx_roads, .int v2] (I, L, ab_RR, n, nc, ns) (.inl (some (.int r2)), (I, L, ab_RR, n, nc, ns)) ∧ ((¬ r2 = (-1) → ((vp_in r2 10) ∧ ab_E w (d + 1) mt_Roads_spread 128 [.ref kx_roads, .int v1, .int v2, .int v3, .int r2, .int v5, .int v6] [.int (I kx_roads_near r2.toNatClampNeg), .int v3] (I, L, ab_RR, n, nc, ns) res)) ∧ (r2 = (-1) → (ab_E w (d + 1) mt_Roads_spread 128 [.ref kx_roads, .int v1, .int v2, .int v3, .int r2, .int v5, .int v6] [.int 0, .int v3] (I, L, ab_RR, n, nc, ns) res))))) ∧ (¬ (I kx_roads 0) ≤ v6 → ((vp_in v6 10) ∧ ∃ (r6 : Int32), ab_C w d mt_Roads_length [.ref kx_roads, .int v4, .int v6] (I, L, ab_RR, n, nc, ns) (.inl (some (.int r6)), (I, L, ab_RR, n, nc, ns)) ∧ ab_E w (d + 1) mt_Roads_spread 63 [.ref kx_roads, .int v1, .int v2, .int v3, .int v4, .int v5, .int (v6 + 1)] [] ((ab_up I kx_roads_near v6.toNatClampNeg (ab_min32 (I kx_roads_near v6.toNatClampNeg) r6)), L, ab_RR, n, nc, ns) res)))) : ab_E w (d + 1) mt_Roads_spread 63 [.ref kx_roads, .int v1, .int v2, .int v3, .int v4, .int v5, .int v6] [] (I, L, ab_RR, n, nc, ns) res := by
  refine ab_iload (i := 6) d_Roads_spread_63 rfl ?_
  refine ab_aload_n (i := 0) d_Roads_spread_65 rfl rfl ?_
  refine ab_getI (ci := 5) (k := 0) d_Roads_spread_66 v_385 rfl (by decide) (by decide) rfl ?_
  refine ab_icmp_ge (tgt := 103) d_Roads_spread_69 (by decide) (fun c1 => ?_) (fun c1 => ?_)
  · have h := h.1 c1
    refine ab_aload_n (i := 0) d_Roads_spread_103 rfl rfl ?_
    refine ab_iload_n (i := 2) d_Roads_spread_104 rfl rfl ?_
    obtain ⟨r2, hC, h⟩ := h
    refine ab_callV (me2 := mt_Roads_nearest) (b := kx_roads) (as := [.int v2]) (st := []) (rv := (some (.int r2))) (M2 := (I, L, ab_RR, n, nc, ns)) d_Roads_spread_105 ce_Roads_nearest v_1259 v_1261 v_60 (by decide) rfl (Nat.le_of_ble_eq_true rfl) hC (Nat.le_refl _) (Nat.le_refl _) hc hs (fun j h9 => by cases h9) (fun _ _ => rfl) ?_
    show ab_E w (d + 1) mt_Roads_spread 108 [.ref kx_roads, .int v1, .int v2, .int v3, .int v4, .int v5, .int v6] [.int r2] (I, L, ab_RR, n, nc, ns) res
    refine ab_istore (i := 4) d_Roads_spread_108 (by decide) (Or.inr rfl) ?_
    refine ab_iload_n (i := 3) d_Roads_spread_110 rfl rfl ?_
    refine ab_iload (i := 4) d_Roads_spread_111 rfl ?_
    refine ab_iconst (v := (-1)) d_Roads_spread_113 rfl ?_
    refine ab_icmp_ne (tgt := 121) d_Roads_spread_114 (by decide) (fun c3 => ?_) (fun c3 => ?_)
    · have h := h.1 c3
      refine ab_aload_n (i := 0) d_Roads_spread_121 rfl rfl ?_
      refine ab_getR (ci := 5) (k := 2) (j := kx_roads_near) d_Roads_spread_122 v_387 rfl (by decide) (by decide) rfl r_kx_roads_2 ?_
      refine ab_iload (i := 4) d_Roads_spread_125 rfl ?_
      have g4 := h.1; have h := h.2
      refine ab_iald d_Roads_spread_127 rfl rfl g4 ?_
      exact h
    · have h := h.2 c3
      refine ab_iconst (v := 0) d_Roads_spread_117 rfl ?_
      refine ab_goto (tgt := 128) d_Roads_spread_118 (by decide) ?_
      exact h
  · have h := h.2 c1
    refine ab_aload_n (i := 0) d_Roads_spread_72 rfl rfl ?_
    refine ab_getR (ci := 5) (k := 2) (j := kx_roads_near) d_Roads_spread_73 v_387 rfl (by decide) (by decide) rfl r_kx_roads_2 ?_
    refine ab_iload (i := 6) d_Roads_spread_76 rfl ?_
    refine ab_aload_n (i := 0) d_Roads_spread_78 rfl rfl ?_
    refine ab_getR (ci := 5) (k := 2) (j := kx_roads_near) d_Roads_spread_79 v_387 rfl (by decide) (by decide) rfl r_kx_roads_2 ?_
    refine ab_iload (i := 6) d_Roads_spread_82 rfl ?_
    have g5 := h.1; have h := h.2
    refine ab_iald d_Roads_spread_84 rfl rfl g5 ?_
    refine ab_aload_n (i := 0) d_Roads_spread_85 rfl rfl ?_
    refine ab_iload (i := 4) d_Roads_spread_86 rfl ?_
    refine ab_iload (i := 6) d_Roads_spread_88 rfl ?_
    obtain ⟨r6, hC, h⟩ := h
    refine ab_callV (me2 := mt_Roads_length) (b := kx_roads) (as := [.int v4, .int v6]) (st := [.int (I kx_roads_near v6.toNatClampNeg), .int v6, .ref kx_roads_near]) (rv := (some (.int r6))) (M2 := (I, L, ab_RR, n, nc, ns)) d_Roads_spread_90 ce_Roads_length v_1044 v_1045 v_1046 (by decide) rfl (Nat.le_of_ble_eq_true rfl) hC (Nat.le_refl _) (Nat.le_refl _) hc hs (fun j h9 => by cases h9) (fun _ _ => rfl) ?_
    show ab_E w (d + 1) mt_Roads_spread 93 [.ref kx_roads, .int v1, .int v2, .int v3, .int v4, .int v5, .int v6] [.int r6, .int (I kx_roads_near v6.toNatClampNeg), .int v6, .ref kx_roads_near] (I, L, ab_RR, n, nc, ns) res
    refine ab_min d_Roads_spread_93 v_1038 v_448 v_150 v_449 (Nat.succ_le_succ (Nat.zero_le _)) (Nat.le_of_ble_eq_true rfl) hc hs ?_
    refine ab_iast d_Roads_spread_96 rfl rfl g5 ?_
    refine ab_iinc (i := 6) (v := (v6 + 1)) d_Roads_spread_97 rfl rfl (by decide) (Or.inr rfl) ?_
    refine ab_goto (tgt := 63) d_Roads_spread_100 (by decide) ?_
    exact h
theorem q_Roads_spread_128 {w : ab_Wd} {d n nc ns : Nat} {I : Nat → Nat → Int32} {L : Nat → Nat → Int64} {res : ab_Re} (v1 : Int32) (v2 : Int32) (v3 : Int32) (v4 : Int32) (v5 : Int32) (v6 : Int32) (s0 : Int32) (s1 : Int32) (hc : nc ≤ res.2.2.2.2.2.1) (hs : ns ≤ res.2.2.2.2.2.2)
    (h : ab_E w (d + 1) mt_Roads_spread 38 [.ref kx_roads, .int v1, .int v2, .int (s0 + s1), .int v4, .int (v5 + 1), .null] [] (I, L, ab_RR, n, nc, ns) res) : ab_E w (d + 1) mt_Roads_spread 128 [.ref kx_roads, .int v1, .int v2, .int v3, .int v4, .int v5, .int v6] [.int s1, .int s0] (I, L, ab_RR, n, nc, ns) res := by
  refine ab_iadd d_Roads_spread_128 ?_
  refine ab_istore_n (i := 3) d_Roads_spread_129 rfl (by decide) (Or.inr rfl) ?_
  refine ab_iinc (i := 5) (v := (v5 + 1)) d_Roads_spread_130 rfl rfl (by decide) (Or.inr rfl) ?_
  refine ab_goto (tgt := 38) d_Roads_spread_133 (by decide) ?_
  refine ab_drop 6 ?_
  exact h
theorem q_Roads_spread_136 {w : ab_Wd} {d n nc ns : Nat} {I : Nat → Nat → Int32} {L : Nat → Nat → Int64} {res : ab_Re} (v1 : Int32) (v2 : Int32) (v3 : Int32) (v4 : Int32) (v5 : Int32) (hc : nc ≤ res.2.2.2.2.2.1) (hs : ns ≤ res.2.2.2.2.2.2)
    (h : res = (.inl (some (.int v3)), (I, L, ab_RR, n, nc, ns))) : ab_E w (d + 1) mt_Roads_spread 136 [.ref kx_roads, .int v1, .int v2, .int v3, .int v4, .int v5, .null] [] (I, L, ab_RR, n, nc, ns) res := by
  refine ab_iload_n (i := 3) d_Roads_spread_136 rfl rfl ?_
  exact ab_iret (ty := .int) d_Roads_spread_137 rfl rfl h
theorem d_Roads_measureOver_0 : decode (ab_bc mt_Roads_measureOver) 0 = .ok (.iconst 0, 1) := by decide +kernel
theorem d_Roads_measureOver_1 : decode (ab_bc mt_Roads_measureOver) 1 = .ok (.istore_n 2, 1) := by decide +kernel
theorem d_Roads_measureOver_2 : decode (ab_bc mt_Roads_measureOver) 2 = .ok (.iload_n 2, 1) := by decide +kernel
theorem d_Roads_measureOver_3 : decode (ab_bc mt_Roads_measureOver) 3 = .ok (.aload_n 0, 1) := by decide +kernel
theorem d_Roads_measureOver_4 : decode (ab_bc mt_Roads_measureOver) 4 = .ok (.getfield 9, 3) := by decide +kernel
theorem d_Roads_measureOver_7 : decode (ab_bc mt_Roads_measureOver) 7 = .ok (.if_icmp .ge 56, 3) := by decide +kernel
theorem d_Roads_measureOver_10 : decode (ab_bc mt_Roads_measureOver) 10 = .ok (.aload_n 0, 1) := by decide +kernel
theorem d_Roads_measureOver_11 : decode (ab_bc mt_Roads_measureOver) 11 = .ok (.iload_n 2, 1) := by decide +kernel
theorem d_Roads_measureOver_12 : decode (ab_bc mt_Roads_measureOver) 12 = .ok (.iload_n 1, 1) := by decide +kernel
theorem d_Roads_measureOver_13 : decode (ab_bc mt_Roads_measureOver) 13 = .ok (.invokevirtual 62, 3) := by decide +kernel
theorem d_Roads_measureOver_16 : decode (ab_bc mt_Roads_measureOver) 16 = .ok (.istore_n 3, 1) := by decide +kernel
theorem d_Roads_measureOver_17 : decode (ab_bc mt_Roads_measureOver) 17 = .ok (.iconst 0, 1) := by decide +kernel
theorem d_Roads_measureOver_18 : decode (ab_bc mt_Roads_measureOver) 18 = .ok (.istore 4, 2) := by decide +kernel
theorem d_Roads_measureOver_20 : decode (ab_bc mt_Roads_measureOver) 20 = .ok (.iload 4, 2) := by decide +kernel
theorem d_Roads_measureOver_22 : decode (ab_bc mt_Roads_measureOver) 22 = .ok (.aload_n 0, 1) := by decide +kernel
theorem d_Roads_measureOver_23 : decode (ab_bc mt_Roads_measureOver) 23 = .ok (.getfield 9, 3) := by decide +kernel
theorem d_Roads_measureOver_26 : decode (ab_bc mt_Roads_measureOver) 26 = .ok (.if_icmp .ge 31, 3) := by decide +kernel
theorem d_Roads_measureOver_29 : decode (ab_bc mt_Roads_measureOver) 29 = .ok (.iload_n 3, 1) := by decide +kernel
theorem d_Roads_measureOver_30 : decode (ab_bc mt_Roads_measureOver) 30 = .ok (.ldc 37, 2) := by decide +kernel
theorem d_Roads_measureOver_32 : decode (ab_bc mt_Roads_measureOver) 32 = .ok (.if_icmp .ge 25, 3) := by decide +kernel
theorem d_Roads_measureOver_35 : decode (ab_bc mt_Roads_measureOver) 35 = .ok (.aload_n 0, 1) := by decide +kernel
theorem d_Roads_measureOver_36 : decode (ab_bc mt_Roads_measureOver) 36 = .ok (.iload_n 2, 1) := by decide +kernel
theorem d_Roads_measureOver_37 : decode (ab_bc mt_Roads_measureOver) 37 = .ok (.iload 4, 2) := by decide +kernel
theorem d_Roads_measureOver_39 : decode (ab_bc mt_Roads_measureOver) 39 = .ok (.iload_n 3, 1) := by decide +kernel
theorem d_Roads_measureOver_40 : decode (ab_bc mt_Roads_measureOver) 40 = .ok (.aload_n 0, 1) := by decide +kernel
theorem d_Roads_measureOver_41 : decode (ab_bc mt_Roads_measureOver) 41 = .ok (.iload_n 1, 1) := by decide +kernel
theorem d_Roads_measureOver_42 : decode (ab_bc mt_Roads_measureOver) 42 = .ok (.iload 4, 2) := by decide +kernel
theorem d_Roads_measureOver_44 : decode (ab_bc mt_Roads_measureOver) 44 = .ok (.invokevirtual 62, 3) := by decide +kernel
theorem d_Roads_measureOver_47 : decode (ab_bc mt_Roads_measureOver) 47 = .ok (.iadd, 1) := by decide +kernel
theorem d_Roads_measureOver_48 : decode (ab_bc mt_Roads_measureOver) 48 = .ok (.invokevirtual 38, 3) := by decide +kernel
theorem d_Roads_measureOver_51 : decode (ab_bc mt_Roads_measureOver) 51 = .ok (.iinc 4 1, 3) := by decide +kernel
theorem d_Roads_measureOver_54 : decode (ab_bc mt_Roads_measureOver) 54 = .ok (.goto (-34), 3) := by decide +kernel
theorem d_Roads_measureOver_57 : decode (ab_bc mt_Roads_measureOver) 57 = .ok (.iinc 2 1, 3) := by decide +kernel
theorem d_Roads_measureOver_60 : decode (ab_bc mt_Roads_measureOver) 60 = .ok (.goto (-58), 3) := by decide +kernel
theorem d_Roads_measureOver_63 : decode (ab_bc mt_Roads_measureOver) 63 = .ok (.return_, 1) := by decide +kernel
-- CableKeeper$Roads.measureOver(I)V over kx_roads
theorem q_Roads_measureOver_0 {w : ab_Wd} {d n nc ns : Nat} {I : Nat → Nat → Int32} {L : Nat → Nat → Int64} {res : ab_Re} (v1 : Int32) (hc : nc ≤ res.2.2.2.2.2.1) (hs : ns ≤ res.2.2.2.2.2.2)
    (h : ab_E w (d + 1) mt_Roads_measureOver 2 [.ref kx_roads, .int v1, .int 0, .null, .null] [] (I, L, ab_RR, n, nc, ns) res) : ab_E w (d + 1) mt_Roads_measureOver 0 [.ref kx_roads, .int v1, .null, .null, .null] [] (I, L, ab_RR, n, nc, ns) res := by
  refine ab_iconst (v := 0) d_Roads_measureOver_0 rfl ?_
  refine ab_istore_n (i := 2) d_Roads_measureOver_1 rfl (by decide) (Or.inr rfl) ?_
  exact h
theorem q_Roads_measureOver_2 {w : ab_Wd} {d n nc ns : Nat} {I : Nat → Nat → Int32} {L : Nat → Nat → Int64} {res : ab_Re} (v1 : Int32) (v2 : Int32) (hc : nc ≤ res.2.2.2.2.2.1) (hs : ns ≤ res.2.2.2.2.2.2)
    (h : (((I kx_roads 0) ≤ v2 → (res = (.inl none, (I, L, ab_RR, n, nc, ns)))) ∧ (¬ (I kx_roads 0) ≤ v2 → (∃ (r2 : Int32), ab_C w d mt_Roads_length [.ref kx_roads, .int v2, .int v1] (I, L, ab_RR, n, nc, ns) (.inl (some (.int r2)), (I, L, ab_RR, n, nc, ns)) ∧ ab_E w (d + 1) mt_Roads_measureOver 20 [.ref kx_roads, .int v1, .int v2, .int r2, .int 0] [] (I, L, ab_RR, n, nc, ns) res)))) : ab_E w (d + 1) mt_Roads_measureOver 2 [.ref kx_roads, .int v1, .int v2, .null, .null] [] (I, L, ab_RR, n, nc, ns) res := by
  refine ab_iload_n (i := 2) d_Roads_measureOver_2 rfl rfl ?_
  refine ab_aload_n (i := 0) d_Roads_measureOver_3 rfl rfl ?_
  refine ab_getI (ci := 5) (k := 0) d_Roads_measureOver_4 v_385 rfl (by decide) (by decide) rfl ?_
  refine ab_icmp_ge (tgt := 63) d_Roads_measureOver_7 (by decide) (fun c1 => ?_) (fun c1 => ?_)
  · have h := h.1 c1
    exact ab_vret d_Roads_measureOver_63 rfl h
  · have h := h.2 c1
    refine ab_aload_n (i := 0) d_Roads_measureOver_10 rfl rfl ?_
    refine ab_iload_n (i := 2) d_Roads_measureOver_11 rfl rfl ?_
    refine ab_iload_n (i := 1) d_Roads_measureOver_12 rfl rfl ?_
    obtain ⟨r2, hC, h⟩ := h
    refine ab_callV (me2 := mt_Roads_length) (b := kx_roads) (as := [.int v2, .int v1]) (st := []) (rv := (some (.int r2))) (M2 := (I, L, ab_RR, n, nc, ns)) d_Roads_measureOver_13 ce_Roads_length v_1044 v_1045 v_1046 (by decide) rfl (Nat.le_of_ble_eq_true rfl) hC (Nat.le_refl _) (Nat.le_refl _) hc hs (fun j h9 => by cases h9) (fun _ _ => rfl) ?_
    show ab_E w (d + 1) mt_Roads_measureOver 16 [.ref kx_roads, .int v1, .int v2, .null, .null] [.int r2] (I, L, ab_RR, n, nc, ns) res
    refine ab_istore_n (i := 3) d_Roads_measureOver_16 rfl (by decide) (Or.inr rfl) ?_
    refine ab_iconst (v := 0) d_Roads_measureOver_17 rfl ?_
    refine ab_istore (i := 4) d_Roads_measureOver_18 (by decide) (Or.inr rfl) ?_
    exact h
theorem q_Roads_measureOver_20 {w : ab_Wd} {d n nc ns : Nat} {I : Nat → Nat → Int32} {L : Nat → Nat → Int64} {res : ab_Re} (v1 : Int32) (v2 : Int32) (v3 : Int32) (v4 : Int32) (hc : nc ≤ res.2.2.2.2.2.1) (hs : ns ≤ res.2.2.2.2.2.2)
    (h : (((I kx_roads 0) ≤ v4 → (ab_E w (d + 1) mt_Roads_measureOver 57 [.ref kx_roads, .int v1, .int v2, .int v3, .int v4] [] (I, L, ab_RR, n, nc, ns) res)) ∧ (¬ (I kx_roads 0) ≤ v4 → ((1000000 ≤ v3 → (ab_E w (d + 1) mt_Roads_measureOver 57 [.ref kx_roads, .int v1, .int v2, .int v3, .int v4] [] (I, L, ab_RR, n, nc, ns) res)) ∧ (¬ 1000000 ≤ v3 → (∃ (r3 : Int32), ab_C w d mt_Roads_length [.ref kx_roads, .int v1, .int v4] (I, L, ab_RR, n, nc, ns) (.inl (some (.int r3)), (I, L, ab_RR, n, nc, ns)) ∧ ∃ (I5 : Nat → Nat → Int32), ab_C w d mt_Roads_shorten [.ref kx_roads, .int v2, .int v4, .int (v3 + r3)] (I, L, ab_RR, n, nc, ns) (.inl none, (I5, L, ab_RR, n, nc, ns)) ∧ ab_E w (d + 1) mt_Roads_measureOver 20 [.ref kx_roads, .int v1, .int v2, .int v3, .int (v4 + 1)] [] (I5, L, ab_RR, n, nc, ns) res)))))) : ab_E w (d + 1) mt_Roads_measureOver 20 [.ref kx_roads, .int v1, .int v2, .int v3, .int v4] [] (I, L, ab_RR, n, nc, ns) res := by
  refine ab_iload (i := 4) d_Roads_measureOver_20 rfl ?_
  refine ab_aload_n (i := 0) d_Roads_measureOver_22 rfl rfl ?_
  refine ab_getI (ci := 5) (k := 0) d_Roads_measureOver_23 v_385 rfl (by decide) (by decide) rfl ?_
  refine ab_icmp_ge (tgt := 57) d_Roads_measureOver_26 (by decide) (fun c1 => ?_) (fun c1 => ?_)
  · have h := h.1 c1
    exact h
  · have h := h.2 c1
    refine ab_iload_n (i := 3) d_Roads_measureOver_29 rfl rfl ?_
    refine ab_ldc (v := 1000000) d_Roads_measureOver_30 v_1033 ?_
    refine ab_icmp_ge (tgt := 57) d_Roads_measureOver_32 (by decide) (fun c2 => ?_) (fun c2 => ?_)
    · have h := h.1 c2
      exact h
    · have h := h.2 c2
      refine ab_aload_n (i := 0) d_Roads_measureOver_35 rfl rfl ?_
      refine ab_iload_n (i := 2) d_Roads_measureOver_36 rfl rfl ?_
      refine ab_iload (i := 4) d_Roads_measureOver_37 rfl ?_
      refine ab_iload_n (i := 3) d_Roads_measureOver_39 rfl rfl ?_
      refine ab_aload_n (i := 0) d_Roads_measureOver_40 rfl rfl ?_
      refine ab_iload_n (i := 1) d_Roads_measureOver_41 rfl rfl ?_
      refine ab_iload (i := 4) d_Roads_measureOver_42 rfl ?_
      obtain ⟨r3, hC, h⟩ := h
      refine ab_callV (me2 := mt_Roads_length) (b := kx_roads) (as := [.int v1, .int v4]) (st := [.int v3, .int v4, .int v2, .ref kx_roads]) (rv := (some (.int r3))) (M2 := (I, L, ab_RR, n, nc, ns)) d_Roads_measureOver_44 ce_Roads_length v_1044 v_1045 v_1046 (by decide) rfl (Nat.le_of_ble_eq_true rfl) hC (Nat.le_refl _) (Nat.le_refl _) hc hs (fun j h9 => by cases h9) (fun _ _ => rfl) ?_
      show ab_E w (d + 1) mt_Roads_measureOver 47 [.ref kx_roads, .int v1, .int v2, .int v3, .int v4] [.int r3, .int v3, .int v4, .int v2, .ref kx_roads] (I, L, ab_RR, n, nc, ns) res
      refine ab_iadd d_Roads_measureOver_47 ?_
      obtain ⟨I5, hC, h⟩ := h
      refine ab_callV (me2 := mt_Roads_shorten) (b := kx_roads) (as := [.int v2, .int v4, .int (v3 + r3)]) (st := []) (rv := none) (M2 := (I5, L, ab_RR, n, nc, ns)) d_Roads_measureOver_48 ce_Roads_shorten v_1034 v_1036 v_41 (by decide) rfl (Nat.le_of_ble_eq_true rfl) hC (Nat.le_refl _) (Nat.le_refl _) hc hs (fun j h9 => by cases h9) (fun _ _ => rfl) ?_
      show ab_E w (d + 1) mt_Roads_measureOver 51 [.ref kx_roads, .int v1, .int v2, .int v3, .int v4] [] (I5, L, ab_RR, n, nc, ns) res
      refine ab_iinc (i := 4) (v := (v4 + 1)) d_Roads_measureOver_51 rfl rfl (by decide) (Or.inr rfl) ?_
      refine ab_goto (tgt := 20) d_Roads_measureOver_54 (by decide) ?_
      exact h
theorem q_Roads_measureOver_57 {w : ab_Wd} {d n nc ns : Nat} {I : Nat → Nat → Int32} {L : Nat → Nat → Int64} {res : ab_Re} (v1 : Int32) (v2 : Int32) (v3 : Int32) (v4 : Int32) (hc : nc ≤ res.2.2.2.2.2.1) (hs : ns ≤ res.2.2.2.2.2.2)
    (h : ab_E w (d + 1) mt_Roads_measureOver 2 [.ref kx_roads, .int v1, .int (v2 + 1), .null, .null] [] (I, L, ab_RR, n, nc, ns) res) : ab_E w (d + 1) mt_Roads_measureOver 57 [.ref kx_roads, .int v1, .int v2, .int v3, .int v4] [] (I, L, ab_RR, n, nc, ns) res := by
  refine ab_iinc (i := 2) (v := (v2 + 1)) d_Roads_measureOver_57 rfl rfl (by decide) (Or.inr rfl) ?_
  refine ab_goto (tgt := 2) d_Roads_measureOver_60 (by decide) ?_
  refine ab_drop 3 ?_
  refine ab_drop 4 ?_
  exact h
