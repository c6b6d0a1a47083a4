theorem d_Roads_shorten_0 : decode (ab_bc mt_Roads_shorten) 0 = .ok (.iload_n 1, 1) := by decide +kernel
theorem d_Roads_shorten_1 : decode (ab_bc mt_Roads_shorten) 1 = .ok (.bipush 10, 2) := by decide +kernel
theorem d_Roads_shorten_3 : decode (ab_bc mt_Roads_shorten) 3 = .ok (.imul, 1) := by decide +kernel
theorem d_Roads_shorten_4 : decode (ab_bc mt_Roads_shorten) 4 = .ok (.iload_n 2, 1) := by decide +kernel
theorem d_Roads_shorten_5 : decode (ab_bc mt_Roads_shorten) 5 = .ok (.iadd, 1) := by decide +kernel
theorem d_Roads_shorten_6 : decode (ab_bc mt_Roads_shorten) 6 = .ok (.istore 4, 2) := by decide +kernel
theorem d_Roads_shorten_8 : decode (ab_bc mt_Roads_shorten) 8 = .ok (.aload_n 0, 1) := by decide +kernel
theorem d_Roads_shorten_9 : decode (ab_bc mt_Roads_shorten) 9 = .ok (.getfield 15, 3) := by decide +kernel
theorem d_Roads_shorten_12 : decode (ab_bc mt_Roads_shorten) 12 = .ok (.iload 4, 2) := by decide +kernel
theorem d_Roads_shorten_14 : decode (ab_bc mt_Roads_shorten) 14 = .ok (.aload_n 0, 1) := by decide +kernel
theorem d_Roads_shorten_15 : decode (ab_bc mt_Roads_shorten) 15 = .ok (.getfield 15, 3) := by decide +kernel
theorem d_Roads_shorten_18 : decode (ab_bc mt_Roads_shorten) 18 = .ok (.iload 4, 2) := by decide +kernel
theorem d_Roads_shorten_20 : decode (ab_bc mt_Roads_shorten) 20 = .ok (.iaload, 1) := by decide +kernel
theorem d_Roads_shorten_21 : decode (ab_bc mt_Roads_shorten) 21 = .ok (.iload_n 3, 1) := by decide +kernel
theorem d_Roads_shorten_22 : decode (ab_bc mt_Roads_shorten) 22 = .ok (.invokestatic 28, 3) := by decide +kernel
theorem d_Roads_shorten_25 : decode (ab_bc mt_Roads_shorten) 25 = .ok (.iastore, 1) := by decide +kernel
theorem d_Roads_shorten_26 : decode (ab_bc mt_Roads_shorten) 26 = .ok (.return_, 1) := by decide +kernel
-- CableKeeper$Roads.shorten(III)V over kx_roads
theorem q_Roads_shorten_0 {w : ab_Wd} {d n nc ns : Nat} {I : Nat → Nat → Int32} {L : Nat → Nat → Int64} {res : ab_Re} (v1 : Int32) (v2 : Int32) (v3 : Int32) (hc : nc ≤ res.2.2.2.2.2.1) (hs : ns ≤ res.2.2.2.2.2.2)
    (h : (vp_in ((v1 * 10) + v2) 100) ∧ res = (.inl none, ((ab_up I kx_roads_lengths ((v1 * 10) + v2).toNatClampNeg (ab_min32 (I kx_roads_lengths ((v1 * 10) + v2).toNatClampNeg) v3)), L, ab_RR, n, nc, ns))) : ab_E w (d + 1) mt_Roads_shorten 0 [.ref kx_roads, .int v1, .int v2, .int v3, .null] [] (I, L, ab_RR, n, nc, ns) res := by
  refine ab_iload_n (i := 1) d_Roads_shorten_0 rfl rfl ?_
  refine ab_bipush (v := 10) d_Roads_shorten_1 rfl ?_
  refine ab_imul d_Roads_shorten_3 ?_
  refine ab_iload_n (i := 2) d_Roads_shorten_4 rfl rfl ?_
  refine ab_iadd d_Roads_shorten_5 ?_
  refine ab_istore (i := 4) d_Roads_shorten_6 (by decide) (Or.inr rfl) ?_
  refine ab_aload_n (i := 0) d_Roads_shorten_8 rfl rfl ?_
  refine ab_getR (ci := 5) (k := 1) (j := kx_roads_lengths) d_Roads_shorten_9 v_386 rfl (by decide) (by decide) rfl r_kx_roads_1 ?_
  refine ab_iload (i := 4) d_Roads_shorten_12 rfl ?_
  refine ab_aload_n (i := 0) d_Roads_shorten_14 rfl rfl ?_
  refine ab_getR (ci := 5) (k := 1) (j := kx_roads_lengths) d_Roads_shorten_15 v_386 rfl (by decide) (by decide) rfl r_kx_roads_1 ?_
  refine ab_iload (i := 4) d_Roads_shorten_18 rfl ?_
  have g1 := h.1; have h := h.2
  refine ab_iald d_Roads_shorten_20 rfl rfl g1 ?_
  refine ab_iload_n (i := 3) d_Roads_shorten_21 rfl rfl ?_
  refine ab_min d_Roads_shorten_22 v_1038 v_448 v_150 v_449 (Nat.succ_le_succ (Nat.zero_le _)) (Nat.le_of_ble_eq_true rfl) hc hs ?_
  refine ab_iast d_Roads_shorten_25 rfl rfl g1 ?_
  exact ab_vret d_Roads_shorten_26 rfl h
theorem d_Roads_reachOver_0 : decode (ab_bc mt_Roads_reachOver) 0 = .ok (.aload_n 1, 1) := by decide +kernel
theorem d_Roads_reachOver_1 : decode (ab_bc mt_Roads_reachOver) 1 = .ok (.iload_n 2, 1) := by decide +kernel
theorem d_Roads_reachOver_2 : decode (ab_bc mt_Roads_reachOver) 2 = .ok (.invokevirtual 45, 3) := by decide +kernel
theorem d_Roads_reachOver_5 : decode (ab_bc mt_Roads_reachOver) 5 = .ok (.ifCond .ne 5, 3) := by decide +kernel
theorem d_Roads_reachOver_8 : decode (ab_bc mt_Roads_reachOver) 8 = .ok (.iload_n 3, 1) := by decide +kernel
theorem d_Roads_reachOver_9 : decode (ab_bc mt_Roads_reachOver) 9 = .ok (.ireturn, 1) := by decide +kernel
theorem d_Roads_reachOver_10 : decode (ab_bc mt_Roads_reachOver) 10 = .ok (.aload_n 1, 1) := by decide +kernel
theorem d_Roads_reachOver_11 : decode (ab_bc mt_Roads_reachOver) 11 = .ok (.getfield 49, 3) := by decide +kernel
theorem d_Roads_reachOver_14 : decode (ab_bc mt_Roads_reachOver) 14 = .ok (.iload_n 2, 1) := by decide +kernel
theorem d_Roads_reachOver_15 : decode (ab_bc mt_Roads_reachOver) 15 = .ok (.iaload, 1) := by decide +kernel
theorem d_Roads_reachOver_16 : decode (ab_bc mt_Roads_reachOver) 16 = .ok (.istore 4, 2) := by decide +kernel
theorem d_Roads_reachOver_18 : decode (ab_bc mt_Roads_reachOver) 18 = .ok (.aload_n 1, 1) := by decide +kernel
theorem d_Roads_reachOver_19 : decode (ab_bc mt_Roads_reachOver) 19 = .ok (.getfield 52, 3) := by decide +kernel
theorem d_Roads_reachOver_22 : decode (ab_bc mt_Roads_reachOver) 22 = .ok (.iload_n 2, 1) := by decide +kernel
theorem d_Roads_reachOver_23 : decode (ab_bc mt_Roads_reachOver) 23 = .ok (.iaload, 1) := by decide +kernel
theorem d_Roads_reachOver_24 : decode (ab_bc mt_Roads_reachOver) 24 = .ok (.istore 5, 2) := by decide +kernel
theorem d_Roads_reachOver_26 : decode (ab_bc mt_Roads_reachOver) 26 = .ok (.iload_n 3, 1) := by decide +kernel
theorem d_Roads_reachOver_27 : decode (ab_bc mt_Roads_reachOver) 27 = .ok (.iload 4, 2) := by decide +kernel
theorem d_Roads_reachOver_29 : decode (ab_bc mt_Roads_reachOver) 29 = .ok (.ishr, 1) := by decide +kernel
theorem d_Roads_reachOver_30 : decode (ab_bc mt_Roads_reachOver) 30 = .ok (.iconst 1, 1) := by decide +kernel
theorem d_Roads_reachOver_31 : decode (ab_bc mt_Roads_reachOver) 31 = .ok (.iand, 1) := by decide +kernel
theorem d_Roads_reachOver_32 : decode (ab_bc mt_Roads_reachOver) 32 = .ok (.iconst 1, 1) := by decide +kernel
theorem d_Roads_reachOver_33 : decode (ab_bc mt_Roads_reachOver) 33 = .ok (.if_icmp .ne 7, 3) := by decide +kernel
theorem d_Roads_reachOver_36 : decode (ab_bc mt_Roads_reachOver) 36 = .ok (.iconst 1, 1) := by decide +kernel
theorem d_Roads_reachOver_37 : decode (ab_bc mt_Roads_reachOver) 37 = .ok (.goto 4, 3) := by decide +kernel
theorem d_Roads_reachOver_40 : decode (ab_bc mt_Roads_reachOver) 40 = .ok (.iconst 0, 1) := by decide +kernel
theorem d_Roads_reachOver_41 : decode (ab_bc mt_Roads_reachOver) 41 = .ok (.istore 6, 2) := by decide +kernel
theorem d_Roads_reachOver_43 : decode (ab_bc mt_Roads_reachOver) 43 = .ok (.iload_n 3, 1) := by decide +kernel
theorem d_Roads_reachOver_44 : decode (ab_bc mt_Roads_reachOver) 44 = .ok (.iload 5, 2) := by decide +kernel
theorem d_Roads_reachOver_46 : decode (ab_bc mt_Roads_reachOver) 46 = .ok (.ishr, 1) := by decide +kernel
theorem d_Roads_reachOver_47 : decode (ab_bc mt_Roads_reachOver) 47 = .ok (.iconst 1, 1) := by decide +kernel
theorem d_Roads_reachOver_48 : decode (ab_bc mt_Roads_reachOver) 48 = .ok (.iand, 1) := by decide +kernel
theorem d_Roads_reachOver_49 : decode (ab_bc mt_Roads_reachOver) 49 = .ok (.iconst 1, 1) := by decide +kernel
theorem d_Roads_reachOver_50 : decode (ab_bc mt_Roads_reachOver) 50 = .ok (.if_icmp .ne 7, 3) := by decide +kernel
theorem d_Roads_reachOver_53 : decode (ab_bc mt_Roads_reachOver) 53 = .ok (.iconst 1, 1) := by decide +kernel
theorem d_Roads_reachOver_54 : decode (ab_bc mt_Roads_reachOver) 54 = .ok (.goto 4, 3) := by decide +kernel
theorem d_Roads_reachOver_57 : decode (ab_bc mt_Roads_reachOver) 57 = .ok (.iconst 0, 1) := by decide +kernel
theorem d_Roads_reachOver_58 : decode (ab_bc mt_Roads_reachOver) 58 = .ok (.istore 7, 2) := by decide +kernel
theorem d_Roads_reachOver_60 : decode (ab_bc mt_Roads_reachOver) 60 = .ok (.iload 6, 2) := by decide +kernel
theorem d_Roads_reachOver_62 : decode (ab_bc mt_Roads_reachOver) 62 = .ok (.ifCond .eq 33, 3) := by decide +kernel
theorem d_Roads_reachOver_65 : decode (ab_bc mt_Roads_reachOver) 65 = .ok (.iload 7, 2) := by decide +kernel
theorem d_Roads_reachOver_67 : decode (ab_bc mt_Roads_reachOver) 67 = .ok (.ifCond .ne 28, 3) := by decide +kernel
theorem d_Roads_reachOver_70 : decode (ab_bc mt_Roads_reachOver) 70 = .ok (.aload_n 0, 1) := by decide +kernel
theorem d_Roads_reachOver_71 : decode (ab_bc mt_Roads_reachOver) 71 = .ok (.getfield 22, 3) := by decide +kernel
theorem d_Roads_reachOver_74 : decode (ab_bc mt_Roads_reachOver) 74 = .ok (.iload_n 2, 1) := by decide +kernel
theorem d_Roads_reachOver_75 : decode (ab_bc mt_Roads_reachOver) 75 = .ok (.iaload, 1) := by decide +kernel
theorem d_Roads_reachOver_76 : decode (ab_bc mt_Roads_reachOver) 76 = .ok (.iconst 1, 1) := by decide +kernel
theorem d_Roads_reachOver_77 : decode (ab_bc mt_Roads_reachOver) 77 = .ok (.if_icmp .ge 18, 3) := by decide +kernel
theorem d_Roads_reachOver_80 : decode (ab_bc mt_Roads_reachOver) 80 = .ok (.aload_n 0, 1) := by decide +kernel
theorem d_Roads_reachOver_81 : decode (ab_bc mt_Roads_reachOver) 81 = .ok (.getfield 25, 3) := by decide +kernel
theorem d_Roads_reachOver_84 : decode (ab_bc mt_Roads_reachOver) 84 = .ok (.iload 5, 2) := by decide +kernel
theorem d_Roads_reachOver_86 : decode (ab_bc mt_Roads_reachOver) 86 = .ok (.iload_n 2, 1) := by decide +kernel
theorem d_Roads_reachOver_87 : decode (ab_bc mt_Roads_reachOver) 87 = .ok (.iastore, 1) := by decide +kernel
theorem d_Roads_reachOver_88 : decode (ab_bc mt_Roads_reachOver) 88 = .ok (.iload_n 3, 1) := by decide +kernel
theorem d_Roads_reachOver_89 : decode (ab_bc mt_Roads_reachOver) 89 = .ok (.iconst 1, 1) := by decide +kernel
theorem d_Roads_reachOver_90 : decode (ab_bc mt_Roads_reachOver) 90 = .ok (.iload 5, 2) := by decide +kernel
theorem d_Roads_reachOver_92 : decode (ab_bc mt_Roads_reachOver) 92 = .ok (.ishl, 1) := by decide +kernel
theorem d_Roads_reachOver_93 : decode (ab_bc mt_Roads_reachOver) 93 = .ok (.ior, 1) := by decide +kernel
theorem d_Roads_reachOver_94 : decode (ab_bc mt_Roads_reachOver) 94 = .ok (.ireturn, 1) := by decide +kernel
theorem d_Roads_reachOver_95 : decode (ab_bc mt_Roads_reachOver) 95 = .ok (.iload 7, 2) := by decide +kernel
theorem d_Roads_reachOver_97 : decode (ab_bc mt_Roads_reachOver) 97 = .ok (.ifCond .eq 33, 3) := by decide +kernel
theorem d_Roads_reachOver_100 : decode (ab_bc mt_Roads_reachOver) 100 = .ok (.iload 6, 2) := by decide +kernel
theorem d_Roads_reachOver_102 : decode (ab_bc mt_Roads_reachOver) 102 = .ok (.ifCond .ne 28, 3) := by decide +kernel
theorem d_Roads_reachOver_105 : decode (ab_bc mt_Roads_reachOver) 105 = .ok (.aload_n 0, 1) := by decide +kernel
theorem d_Roads_reachOver_106 : decode (ab_bc mt_Roads_reachOver) 106 = .ok (.getfield 22, 3) := by decide +kernel
theorem d_Roads_reachOver_109 : decode (ab_bc mt_Roads_reachOver) 109 = .ok (.iload_n 2, 1) := by decide +kernel
theorem d_Roads_reachOver_110 : decode (ab_bc mt_Roads_reachOver) 110 = .ok (.iaload, 1) := by decide +kernel
theorem d_Roads_reachOver_111 : decode (ab_bc mt_Roads_reachOver) 111 = .ok (.iconst (-1), 1) := by decide +kernel
theorem d_Roads_reachOver_112 : decode (ab_bc mt_Roads_reachOver) 112 = .ok (.if_icmp .le 18, 3) := by decide +kernel
theorem d_Roads_reachOver_115 : decode (ab_bc mt_Roads_reachOver) 115 = .ok (.aload_n 0, 1) := by decide +kernel
theorem d_Roads_reachOver_116 : decode (ab_bc mt_Roads_reachOver) 116 = .ok (.getfield 25, 3) := by decide +kernel
theorem d_Roads_reachOver_119 : decode (ab_bc mt_Roads_reachOver) 119 = .ok (.iload 4, 2) := by decide +kernel
theorem d_Roads_reachOver_121 : decode (ab_bc mt_Roads_reachOver) 121 = .ok (.iload_n 2, 1) := by decide +kernel
theorem d_Roads_reachOver_122 : decode (ab_bc mt_Roads_reachOver) 122 = .ok (.iastore, 1) := by decide +kernel
theorem d_Roads_reachOver_123 : decode (ab_bc mt_Roads_reachOver) 123 = .ok (.iload_n 3, 1) := by decide +kernel
theorem d_Roads_reachOver_124 : decode (ab_bc mt_Roads_reachOver) 124 = .ok (.iconst 1, 1) := by decide +kernel
theorem d_Roads_reachOver_125 : decode (ab_bc mt_Roads_reachOver) 125 = .ok (.iload 4, 2) := by decide +kernel
theorem d_Roads_reachOver_127 : decode (ab_bc mt_Roads_reachOver) 127 = .ok (.ishl, 1) := by decide +kernel
theorem d_Roads_reachOver_128 : decode (ab_bc mt_Roads_reachOver) 128 = .ok (.ior, 1) := by decide +kernel
theorem d_Roads_reachOver_129 : decode (ab_bc mt_Roads_reachOver) 129 = .ok (.ireturn, 1) := by decide +kernel
theorem d_Roads_reachOver_130 : decode (ab_bc mt_Roads_reachOver) 130 = .ok (.iload_n 3, 1) := by decide +kernel
theorem d_Roads_reachOver_131 : decode (ab_bc mt_Roads_reachOver) 131 = .ok (.ireturn, 1) := by decide +kernel
-- CableKeeper$Roads.reachOver(LCableKeeper$Cables;II)I over kx_roads, kx_now_cables
theorem q_Roads_reachOver_0 {w : ab_Wd} {d n nc ns : Nat} {I : Nat → Nat → Int32} {L : Nat → Nat → Int64} {res : ab_Re} (v2 : Int32) (v3 : Int32) (hc : nc ≤ res.2.2.2.2.2.1) (hs : ns ≤ res.2.2.2.2.2.2)
    (h : ∃ (r1 : Int32), ab_C w d mt_Cables_isSound [.ref kx_now_cables, .int v2] (I, L, ab_RR, n, nc, ns) (.inl (some (.int r1)), (I, L, ab_RR, n, nc, ns)) ∧ ((¬ r1 = 0 → ((vp_in v2 24) ∧ ((¬ ((v3 >>> ((I kx_now_cables_first v2.toNatClampNeg) &&& 31)) &&& 1) = 1 → (ab_E w (d + 1) mt_Roads_reachOver 41 [.ref kx_roads, .ref kx_now_cables, .int v2, .int v3, .int (I kx_now_cables_first v2.toNatClampNeg), .int (I kx_now_cables_second v2.toNatClampNeg), .null, .null] [.int 0] (I, L, ab_RR, n, nc, ns) res)) ∧ (((v3 >>> ((I kx_now_cables_first v2.toNatClampNeg) &&& 31)) &&& 1) = 1 → (ab_E w (d + 1) mt_Roads_reachOver 41 [.ref kx_roads, .ref kx_now_cables, .int v2, .int v3, .int (I kx_now_cables_first v2.toNatClampNeg), .int (I kx_now_cables_second v2.toNatClampNeg), .null, .null] [.int 1] (I, L, ab_RR, n, nc, ns) res))))) ∧ (r1 = 0 → (res = (.inl (some (.int v3)), (I, L, ab_RR, n, nc, ns)))))) : ab_E w (d + 1) mt_Roads_reachOver 0 [.ref kx_roads, .ref kx_now_cables, .int v2, .int v3, .null, .null, .null, .null] [] (I, L, ab_RR, n, nc, ns) res := by
  refine ab_aload_n (i := 1) d_Roads_reachOver_0 rfl rfl ?_
  refine ab_iload_n (i := 2) d_Roads_reachOver_1 rfl rfl ?_
  obtain ⟨r1, hC, h⟩ := h
  refine ab_callV (me2 := mt_Cables_isSound) (b := kx_now_cables) (as := [.int v2]) (st := []) (rv := (some (.int r1))) (M2 := (I, L, ab_RR, n, nc, ns)) d_Roads_reachOver_2 ce_Cables_isSound v_1039 v_540 v_541 (by decide) rfl (Nat.le_of_ble_eq_true rfl) hC (Nat.le_refl _) (Nat.le_refl _) hc hs (fun j h9 => by cases h9) (fun _ _ => rfl) ?_
  show ab_E w (d + 1) mt_Roads_reachOver 5 [.ref kx_roads, .ref kx_now_cables, .int v2, .int v3, .null, .null, .null, .null] [.int r1] (I, L, ab_RR, n, nc, ns) res
  refine ab_if_ne (tgt := 10) d_Roads_reachOver_5 (by decide) (fun c2 => ?_) (fun c2 => ?_)
  · have h := h.1 c2
    refine ab_aload_n (i := 1) d_Roads_reachOver_10 rfl rfl ?_
    refine ab_getR (ci := 1) (k := 3) (j := kx_now_cables_first) d_Roads_reachOver_11 v_208 rfl (by decide) (by decide) rfl r_kx_now_cables_3 ?_
    refine ab_iload_n (i := 2) d_Roads_reachOver_14 rfl rfl ?_
    have g3 := h.1; have h := h.2
    refine ab_iald d_Roads_reachOver_15 rfl rfl g3 ?_
    refine ab_istore (i := 4) d_Roads_reachOver_16 (by decide) (Or.inr rfl) ?_
    refine ab_aload_n (i := 1) d_Roads_reachOver_18 rfl rfl ?_
    refine ab_getR (ci := 1) (k := 4) (j := kx_now_cables_second) d_Roads_reachOver_19 v_215 rfl (by decide) (by decide) rfl r_kx_now_cables_4 ?_
    refine ab_iload_n (i := 2) d_Roads_reachOver_22 rfl rfl ?_
    refine ab_iald d_Roads_reachOver_23 rfl rfl g3 ?_
    refine ab_istore (i := 5) d_Roads_reachOver_24 (by decide) (Or.inr rfl) ?_
    refine ab_iload_n (i := 3) d_Roads_reachOver_26 rfl rfl ?_
    refine ab_iload (i := 4) d_Roads_reachOver_27 rfl ?_
    refine ab_ishr d_Roads_reachOver_29 ?_
    refine ab_iconst (v := 1) d_Roads_reachOver_30 rfl ?_
    refine ab_iand d_Roads_reachOver_31 ?_
    refine ab_iconst (v := 1) d_Roads_reachOver_32 rfl ?_
    refine ab_icmp_ne (tgt := 40) d_Roads_reachOver_33 (by decide) (fun c4 => ?_) (fun c4 => ?_)
    · have h := h.1 c4
      refine ab_iconst (v := 0) d_Roads_reachOver_40 rfl ?_
      exact h
    · have h := h.2 c4
      refine ab_iconst (v := 1) d_Roads_reachOver_36 rfl ?_
      refine ab_goto (tgt := 41) d_Roads_reachOver_37 (by decide) ?_
      exact h
  · have h := h.2 c2
    refine ab_iload_n (i := 3) d_Roads_reachOver_8 rfl rfl ?_
    exact ab_iret (ty := .int) d_Roads_reachOver_9 rfl rfl h
theorem q_Roads_reachOver_41 {w : ab_Wd} {d n nc ns : Nat} {I : Nat → Nat → Int32} {L : Nat → Nat → Int64} {res : ab_Re} (v2 : Int32) (v3 : Int32) (v4 : Int32) (v5 : Int32) (s0 : Int32) (hc : nc ≤ res.2.2.2.2.2.1) (hs : ns ≤ res.2.2.2.2.2.2)
    (h : ((¬ ((v3 >>> (v5 &&& 31)) &&& 1) = 1 → (ab_E w (d + 1) mt_Roads_reachOver 58 [.ref kx_roads, .ref kx_now_cables, .int v2, .int v3, .int v4, .int v5, .int s0, .null] [.int 0] (I, L, ab_RR, n, nc, ns) res)) ∧ (((v3 >>> (v5 &&& 31)) &&& 1) = 1 → (ab_E w (d + 1) mt_Roads_reachOver 58 [.ref kx_roads, .ref kx_now_cables, .int v2, .int v3, .int v4, .int v5, .int s0, .null] [.int 1] (I, L, ab_RR, n, nc, ns) res)))) : ab_E w (d + 1) mt_Roads_reachOver 41 [.ref kx_roads, .ref kx_now_cables, .int v2, .int v3, .int v4, .int v5, .null, .null] [.int s0] (I, L, ab_RR, n, nc, ns) res := by
  refine ab_istore (i := 6) d_Roads_reachOver_41 (by decide) (Or.inr rfl) ?_
  refine ab_iload_n (i := 3) d_Roads_reachOver_43 rfl rfl ?_
  refine ab_iload (i := 5) d_Roads_reachOver_44 rfl ?_
  refine ab_ishr d_Roads_reachOver_46 ?_
  refine ab_iconst (v := 1) d_Roads_reachOver_47 rfl ?_
  refine ab_iand d_Roads_reachOver_48 ?_
  refine ab_iconst (v := 1) d_Roads_reachOver_49 rfl ?_
  refine ab_icmp_ne (tgt := 57) d_Roads_reachOver_50 (by decide) (fun c1 => ?_) (fun c1 => ?_)
  · have h := h.1 c1
    refine ab_iconst (v := 0) d_Roads_reachOver_57 rfl ?_
    exact h
  · have h := h.2 c1
    refine ab_iconst (v := 1) d_Roads_reachOver_53 rfl ?_
    refine ab_goto (tgt := 58) d_Roads_reachOver_54 (by decide) ?_
    exact h
theorem q_Roads_reachOver_58 {w : ab_Wd} {d n nc ns : Nat} {I : Nat → Nat → Int32} {L : Nat → Nat → Int64} {res : ab_Re} (v2 : Int32) (v3 : Int32) (v4 : Int32) (v5 : Int32) (v6 : Int32) (s0 : Int32) (hc : nc ≤ res.2.2.2.2.2.1) (hs : ns ≤ res.2.2.2.2.2.2)
    (h : ((v6 = 0 → (ab_E w (d + 1) mt_Roads_reachOver 95 [.ref kx_roads, .ref kx_now_cables, .int v2, .int v3, .int v4, .int v5, .int v6, .int s0] [] (I, L, ab_RR, n, nc, ns) res)) ∧ (¬ v6 = 0 → ((¬ s0 = 0 → (ab_E w (d + 1) mt_Roads_reachOver 95 [.ref kx_roads, .ref kx_now_cables, .int v2, .int v3, .int v4, .int v5, .int v6, .int s0] [] (I, L, ab_RR, n, nc, ns) res)) ∧ (s0 = 0 → ((vp_in v2 24) ∧ ((1 ≤ (I kx_roads_flow v2.toNatClampNeg) → (ab_E w (d + 1) mt_Roads_reachOver 95 [.ref kx_roads, .ref kx_now_cables, .int v2, .int v3, .int v4, .int v5, .int v6, .int s0] [] (I, L, ab_RR, n, nc, ns) res)) ∧ (¬ 1 ≤ (I kx_roads_flow v2.toNatClampNeg) → ((vp_in v5 10) ∧ res = (.inl (some (.int (v3 ||| ((1 : Int32) <<< (v5 &&& 31))))), ((ab_up I kx_roads_reachedBy v5.toNatClampNeg v2), L, ab_RR, n, nc, ns))))))))))) : ab_E w (d + 1) mt_Roads_reachOver 58 [.ref kx_roads, .ref kx_now_cables, .int v2, .int v3, .int v4, .int v5, .int v6, .null] [.int s0] (I, L, ab_RR, n, nc, ns) res := by
  refine ab_istore (i := 7) d_Roads_reachOver_58 (by decide) (Or.inr rfl) ?_
  refine ab_iload (i := 6) d_Roads_reachOver_60 rfl ?_
  refine ab_if_eq (tgt := 95) d_Roads_reachOver_62 (by decide) (fun c1 => ?_) (fun c1 => ?_)
  · have h := h.1 c1
    exact h
  · have h := h.2 c1
    refine ab_iload (i := 7) d_Roads_reachOver_65 rfl ?_
    refine ab_if_ne (tgt := 95) d_Roads_reachOver_67 (by decide) (fun c2 => ?_) (fun c2 => ?_)
    · have h := h.1 c2
      exact h
    · have h := h.2 c2
      refine ab_aload_n (i := 0) d_Roads_reachOver_70 rfl rfl ?_
      refine ab_getR (ci := 5) (k := 3) (j := kx_roads_flow) d_Roads_reachOver_71 v_388 rfl (by decide) (by decide) rfl r_kx_roads_3 ?_
      refine ab_iload_n (i := 2) d_Roads_reachOver_74 rfl rfl ?_
      have g3 := h.1; have h := h.2
      refine ab_iald d_Roads_reachOver_75 rfl rfl g3 ?_
      refine ab_iconst (v := 1) d_Roads_reachOver_76 rfl ?_
      refine ab_icmp_ge (tgt := 95) d_Roads_reachOver_77 (by decide) (fun c4 => ?_) (fun c4 => ?_)
      · have h := h.1 c4
        exact h
      · have h := h.2 c4
        refine ab_aload_n (i := 0) d_Roads_reachOver_80 rfl rfl ?_
        refine ab_getR (ci := 5) (k := 4) (j := kx_roads_reachedBy) d_Roads_reachOver_81 v_389 rfl (by decide) (by decide) rfl r_kx_roads_4 ?_
        refine ab_iload (i := 5) d_Roads_reachOver_84 rfl ?_
        refine ab_iload_n (i := 2) d_Roads_reachOver_86 rfl rfl ?_
        have g5 := h.1; have h := h.2
        refine ab_iast d_Roads_reachOver_87 rfl rfl g5 ?_
        refine ab_iload_n (i := 3) d_Roads_reachOver_88 rfl rfl ?_
        refine ab_iconst (v := 1) d_Roads_reachOver_89 rfl ?_
        refine ab_iload (i := 5) d_Roads_reachOver_90 rfl ?_
        refine ab_ishl d_Roads_reachOver_92 ?_
        refine ab_ior d_Roads_reachOver_93 ?_
        exact ab_iret (ty := .int) d_Roads_reachOver_94 rfl rfl h
theorem q_Roads_reachOver_95 {w : ab_Wd} {d n nc ns : Nat} {I : Nat → Nat → Int32} {L : Nat → Nat → Int64} {res : ab_Re} (v2 : Int32) (v3 : Int32) (v4 : Int32) (v5 : Int32) (v6 : Int32) (v7 : Int32) (hc : nc ≤ res.2.2.2.2.2.1) (hs : ns ≤ res.2.2.2.2.2.2)
    (h : ((v7 = 0 → (ab_E w (d + 1) mt_Roads_reachOver 130 [.ref kx_roads, .ref kx_now_cables, .int v2, .int v3, .int v4, .int v5, .int v6, .int v7] [] (I, L, ab_RR, n, nc, ns) res)) ∧ (¬ v7 = 0 → ((¬ v6 = 0 → (ab_E w (d + 1) mt_Roads_reachOver 130 [.ref kx_roads, .ref kx_now_cables, .int v2, .int v3, .int v4, .int v5, .int v6, .int v7] [] (I, L, ab_RR, n, nc, ns) res)) ∧ (v6 = 0 → ((vp_in v2 24) ∧ (((I kx_roads_flow v2.toNatClampNeg) ≤ (-1) → (ab_E w (d + 1) mt_Roads_reachOver 130 [.ref kx_roads, .ref kx_now_cables, .int v2, .int v3, .int v4, .int v5, .int v6, .int v7] [] (I, L, ab_RR, n, nc, ns) res)) ∧ (¬ (I kx_roads_flow v2.toNatClampNeg) ≤ (-1) → ((vp_in v4 10) ∧ res = (.inl (some (.int (v3 ||| ((1 : Int32) <<< (v4 &&& 31))))), ((ab_up I kx_roads_reachedBy v4.toNatClampNeg v2), L, ab_RR, n, nc, ns))))))))))) : ab_E w (d + 1) mt_Roads_reachOver 95 [.ref kx_roads, .ref kx_now_cables, .int v2, .int v3, .int v4, .int v5, .int v6, .int v7] [] (I, L, ab_RR, n, nc, ns) res := by
  refine ab_iload (i := 7) d_Roads_reachOver_95 rfl ?_
  refine ab_if_eq (tgt := 130) d_Roads_reachOver_97 (by decide) (fun c1 => ?_) (fun c1 => ?_)
  · have h := h.1 c1
    exact h
  · have h := h.2 c1
    refine ab_iload (i := 6) d_Roads_reachOver_100 rfl ?_
    refine ab_if_ne (tgt := 130) d_Roads_reachOver_102 (by decide) (fun c2 => ?_) (fun c2 => ?_)
    · have h := h.1 c2
      exact h
    · have h := h.2 c2
      refine ab_aload_n (i := 0) d_Roads_reachOver_105 rfl rfl ?_
      refine ab_getR (ci := 5) (k := 3) (j := kx_roads_flow) d_Roads_reachOver_106 v_388 rfl (by decide) (by decide) rfl r_kx_roads_3 ?_
      refine ab_iload_n (i := 2) d_Roads_reachOver_109 rfl rfl ?_
      have g3 := h.1; have h := h.2
      refine ab_iald d_Roads_reachOver_110 rfl rfl g3 ?_
      refine ab_iconst (v := (-1)) d_Roads_reachOver_111 rfl ?_
      refine ab_icmp_le (tgt := 130) d_Roads_reachOver_112 (by decide) (fun c4 => ?_) (fun c4 => ?_)
      · have h := h.1 c4
        exact h
      · have h := h.2 c4
        refine ab_aload_n (i := 0) d_Roads_reachOver_115 rfl rfl ?_
        refine ab_getR (ci := 5) (k := 4) (j := kx_roads_reachedBy) d_Roads_reachOver_116 v_389 rfl (by decide) (by decide) rfl r_kx_roads_4 ?_
        refine ab_iload (i := 4) d_Roads_reachOver_119 rfl ?_
        refine ab_iload_n (i := 2) d_Roads_reachOver_121 rfl rfl ?_
        have g5 := h.1; have h := h.2
        refine ab_iast d_Roads_reachOver_122 rfl rfl g5 ?_
        refine ab_iload_n (i := 3) d_Roads_reachOver_123 rfl rfl ?_
        refine ab_iconst (v := 1) d_Roads_reachOver_124 rfl ?_
        refine ab_iload (i := 4) d_Roads_reachOver_125 rfl ?_
        refine ab_ishl d_Roads_reachOver_127 ?_
        refine ab_ior d_Roads_reachOver_128 ?_
        exact ab_iret (ty := .int) d_Roads_reachOver_129 rfl rfl h
theorem q_Roads_reachOver_130 {w : ab_Wd} {d n nc ns : Nat} {I : Nat → Nat → Int32} {L : Nat → Nat → Int64} {res : ab_Re} (v2 : Int32) (v3 : Int32) (v4 : Int32) (v5 : Int32) (v6 : Int32) (v7 : Int32) (hc : nc ≤ res.2.2.2.2.2.1) (hs : ns ≤ res.2.2.2.2.2.2)
    (h : res = (.inl (some (.int v3)), (I, L, ab_RR, n, nc, ns))) : ab_E w (d + 1) mt_Roads_reachOver 130 [.ref kx_roads, .ref kx_now_cables, .int v2, .int v3, .int v4, .int v5, .int v6, .int v7] [] (I, L, ab_RR, n, nc, ns) res := by
  refine ab_iload_n (i := 3) d_Roads_reachOver_130 rfl rfl ?_
  exact ab_iret (ty := .int) d_Roads_reachOver_131 rfl rfl h
theorem d_Roads_nearest_0 : decode (ab_bc mt_Roads_nearest) 0 = .ok (.iconst (-1), 1) := by decide +kernel
theorem d_Roads_nearest_1 : decode (ab_bc mt_Roads_nearest) 1 = .ok (.istore_n 2, 1) := by decide +kernel
theorem d_Roads_nearest_2 : decode (ab_bc mt_Roads_nearest) 2 = .ok (.iconst 0, 1) := by decide +kernel
theorem d_Roads_nearest_3 : decode (ab_bc mt_Roads_nearest) 3 = .ok (.istore_n 3, 1) := by decide +kernel
theorem d_Roads_nearest_4 : decode (ab_bc mt_Roads_nearest) 4 = .ok (.iload_n 3, 1) := by decide +kernel
theorem d_Roads_nearest_5 : decode (ab_bc mt_Roads_nearest) 5 = .ok (.aload_n 0, 1) := by decide +kernel
theorem d_Roads_nearest_6 : decode (ab_bc mt_Roads_nearest) 6 = .ok (.getfield 9, 3) := by decide +kernel
theorem d_Roads_nearest_9 : decode (ab_bc mt_Roads_nearest) 9 = .ok (.if_icmp .ge 52, 3) := by decide +kernel
theorem d_Roads_nearest_12 : decode (ab_bc mt_Roads_nearest) 12 = .ok (.iload_n 2, 1) := by decide +kernel
theorem d_Roads_nearest_13 : decode (ab_bc mt_Roads_nearest) 13 = .ok (.iconst (-1), 1) := by decide +kernel
theorem d_Roads_nearest_14 : decode (ab_bc mt_Roads_nearest) 14 = .ok (.if_icmp .eq 18, 3) := by decide +kernel
theorem d_Roads_nearest_17 : decode (ab_bc mt_Roads_nearest) 17 = .ok (.aload_n 0, 1) := by decide +kernel
theorem d_Roads_nearest_18 : decode (ab_bc mt_Roads_nearest) 18 = .ok (.getfield 19, 3) := by decide +kernel
theorem d_Roads_nearest_21 : decode (ab_bc mt_Roads_nearest) 21 = .ok (.iload_n 3, 1) := by decide +kernel
theorem d_Roads_nearest_22 : decode (ab_bc mt_Roads_nearest) 22 = .ok (.iaload, 1) := by decide +kernel
theorem d_Roads_nearest_23 : decode (ab_bc mt_Roads_nearest) 23 = .ok (.aload_n 0, 1) := by decide +kernel
theorem d_Roads_nearest_24 : decode (ab_bc mt_Roads_nearest) 24 = .ok (.getfield 19, 3) := by decide +kernel
theorem d_Roads_nearest_27 : decode (ab_bc mt_Roads_nearest) 27 = .ok (.iload_n 2, 1) := by decide +kernel
theorem d_Roads_nearest_28 : decode (ab_bc mt_Roads_nearest) 28 = .ok (.iaload, 1) := by decide +kernel
theorem d_Roads_nearest_29 : decode (ab_bc mt_Roads_nearest) 29 = .ok (.if_icmp .ge 7, 3) := by decide +kernel
theorem d_Roads_nearest_32 : decode (ab_bc mt_Roads_nearest) 32 = .ok (.iconst 1, 1) := by decide +kernel
theorem d_Roads_nearest_33 : decode (ab_bc mt_Roads_nearest) 33 = .ok (.goto 4, 3) := by decide +kernel
theorem d_Roads_nearest_36 : decode (ab_bc mt_Roads_nearest) 36 = .ok (.iconst 0, 1) := by decide +kernel
theorem d_Roads_nearest_37 : decode (ab_bc mt_Roads_nearest) 37 = .ok (.istore 4, 2) := by decide +kernel
theorem d_Roads_nearest_39 : decode (ab_bc mt_Roads_nearest) 39 = .ok (.iload_n 1, 1) := by decide +kernel
theorem d_Roads_nearest_40 : decode (ab_bc mt_Roads_nearest) 40 = .ok (.iload_n 3, 1) := by decide +kernel
theorem d_Roads_nearest_41 : decode (ab_bc mt_Roads_nearest) 41 = .ok (.ishr, 1) := by decide +kernel
theorem d_Roads_nearest_42 : decode (ab_bc mt_Roads_nearest) 42 = .ok (.iconst 1, 1) := by decide +kernel
theorem d_Roads_nearest_43 : decode (ab_bc mt_Roads_nearest) 43 = .ok (.iand, 1) := by decide +kernel
theorem d_Roads_nearest_44 : decode (ab_bc mt_Roads_nearest) 44 = .ok (.iconst 1, 1) := by decide +kernel
theorem d_Roads_nearest_45 : decode (ab_bc mt_Roads_nearest) 45 = .ok (.if_icmp .ne 10, 3) := by decide +kernel
theorem d_Roads_nearest_48 : decode (ab_bc mt_Roads_nearest) 48 = .ok (.iload 4, 2) := by decide +kernel
theorem d_Roads_nearest_50 : decode (ab_bc mt_Roads_nearest) 50 = .ok (.ifCond .eq 5, 3) := by decide +kernel
theorem d_Roads_nearest_53 : decode (ab_bc mt_Roads_nearest) 53 = .ok (.iload_n 3, 1) := by decide +kernel
theorem d_Roads_nearest_54 : decode (ab_bc mt_Roads_nearest) 54 = .ok (.istore_n 2, 1) := by decide +kernel
theorem d_Roads_nearest_55 : decode (ab_bc mt_Roads_nearest) 55 = .ok (.iinc 3 1, 3) := by decide +kernel
theorem d_Roads_nearest_58 : decode (ab_bc mt_Roads_nearest) 58 = .ok (.goto (-54), 3) := by decide +kernel
theorem d_Roads_nearest_61 : decode (ab_bc mt_Roads_nearest) 61 = .ok (.iload_n 2, 1) := by decide +kernel
theorem d_Roads_nearest_62 : decode (ab_bc mt_Roads_nearest) 62 = .ok (.ireturn, 1) := by decide +kernel
-- CableKeeper$Roads.nearest(I)I over kx_roads
theorem q_Roads_nearest_0 {w : ab_Wd} {d n nc ns : Nat} {I : Nat → Nat → Int32} {L : Nat → Nat → Int64} {res : ab_Re} (v1 : Int32) (hc : nc ≤ res.2.2.2.2.2.1) (hs : ns ≤ res.2.2.2.2.2.2)
    (h : ab_E w d mt_Roads_nearest 4 [.ref kx_roads, .int v1, .int (-1), .int 0, .null] [] (I, L, ab_RR, n, nc, ns) res) : ab_E w d mt_Roads_nearest 0 [.ref kx_roads, .int v1, .null, .null, .null] [] (I, L, ab_RR, n, nc, ns) res := by
  refine ab_iconst (v := (-1)) d_Roads_nearest_0 rfl ?_
  refine ab_istore_n (i := 2) d_Roads_nearest_1 rfl (by decide) (Or.inr rfl) ?_
  refine ab_iconst (v := 0) d_Roads_nearest_2 rfl ?_
  refine ab_istore_n (i := 3) d_Roads_nearest_3 rfl (by decide) (Or.inr rfl) ?_
  exact h
theorem q_Roads_nearest_4 {w : ab_Wd} {d n nc ns : Nat} {I : Nat → Nat → Int32} {L : Nat → Nat → Int64} {res : ab_Re} (v1 : Int32) (v2 : Int32) (v3 : Int32) (hc : nc ≤ res.2.2.2.2.2.1) (hs : ns ≤ res.2.2.2.2.2.2)
    (h : (((I kx_roads 0) ≤ v3 → (res = (.inl (some (.int v2)), (I, L, ab_RR, n, nc, ns)))) ∧ (¬ (I kx_roads 0) ≤ v3 → ((v2 = (-1) → (ab_E w d mt_Roads_nearest 32 [.ref kx_roads, .int v1, .int v2, .int v3, .null] [] (I, L, ab_RR, n, nc, ns) res)) ∧ (¬ v2 = (-1) → ((vp_in v3 10) ∧ (vp_in v2 10) ∧ (((I kx_roads_near v2.toNatClampNeg) ≤ (I kx_roads_near v3.toNatClampNeg) → (ab_E w d mt_Roads_nearest 37 [.ref kx_roads, .int v1, .int v2, .int v3, .null] [.int 0] (I, L, ab_RR, n, nc, ns) res)) ∧ (¬ (I kx_roads_near v2.toNatClampNeg) ≤ (I kx_roads_near v3.toNatClampNeg) → (ab_E w d mt_Roads_nearest 32 [.ref kx_roads, .int v1, .int v2, .int v3, .null] [] (I, L, ab_RR, n, nc, ns) res))))))))) : ab_E w d mt_Roads_nearest 4 [.ref kx_roads, .int v1, .int v2, .int v3, .null] [] (I, L, ab_RR, n, nc, ns) res := by
  refine ab_iload_n (i := 3) d_Roads_nearest_4 rfl rfl ?_
  refine ab_aload_n (i := 0) d_Roads_nearest_5 rfl rfl ?_
  refine ab_getI (ci := 5) (k := 0) d_Roads_nearest_6 v_385 rfl (by decide) (by decide) rfl ?_
  refine ab_icmp_ge (tgt := 61) d_Roads_nearest_9 (by decide) (fun c1 => ?_) (fun c1 => ?_)
  · have h := h.1 c1
    refine ab_iload_n (i := 2) d_Roads_nearest_61 rfl rfl ?_
    exact ab_iret (ty := .int) d_Roads_nearest_62 rfl rfl h
  · have h := h.2 c1
    refine ab_iload_n (i := 2) d_Roads_nearest_12 rfl rfl ?_
    refine ab_iconst (v := (-1)) d_Roads_nearest_13 rfl ?_
    refine ab_icmp_eq (tgt := 32) d_Roads_nearest_14 (by decide) (fun c2 => ?_) (fun c2 => ?_)
    · have h := h.1 c2
      exact h
    · have h := h.2 c2
      refine ab_aload_n (i := 0) d_Roads_nearest_17 rfl rfl ?_
      refine ab_getR (ci := 5) (k := 2) (j := kx_roads_near) d_Roads_nearest_18 v_387 rfl (by decide) (by decide) rfl r_kx_roads_2 ?_
      refine ab_iload_n (i := 3) d_Roads_nearest_21 rfl rfl ?_
      have g3 := h.1; have h := h.2
      refine ab_iald d_Roads_nearest_22 rfl rfl g3 ?_
      refine ab_aload_n (i := 0) d_Roads_nearest_23 rfl rfl ?_
      refine ab_getR (ci := 5) (k := 2) (j := kx_roads_near) d_Roads_nearest_24 v_387 rfl (by decide) (by decide) rfl r_kx_roads_2 ?_
      refine ab_iload_n (i := 2) d_Roads_nearest_27 rfl rfl ?_
      have g4 := h.1; have h := h.2
      refine ab_iald d_Roads_nearest_28 rfl rfl g4 ?_
      refine ab_icmp_ge (tgt := 36) d_Roads_nearest_29 (by decide) (fun c5 => ?_) (fun c5 => ?_)
      · have h := h.1 c5
        refine ab_iconst (v := 0) d_Roads_nearest_36 rfl ?_
        exact h
      · have h := h.2 c5
        exact h
theorem q_Roads_nearest_32 {w : ab_Wd} {d n nc ns : Nat} {I : Nat → Nat → Int32} {L : Nat → Nat → Int64} {res : ab_Re} (v1 : Int32) (v2 : Int32) (v3 : Int32) (hc : nc ≤ res.2.2.2.2.2.1) (hs : ns ≤ res.2.2.2.2.2.2)
    (h : ab_E w d mt_Roads_nearest 37 [.ref kx_roads, .int v1, .int v2, .int v3, .null] [.int 1] (I, L, ab_RR, n, nc, ns) res) : ab_E w d mt_Roads_nearest 32 [.ref kx_roads, .int v1, .int v2, .int v3, .null] [] (I, L, ab_RR, n, nc, ns) res := by
  refine ab_iconst (v := 1) d_Roads_nearest_32 rfl ?_
  refine ab_goto (tgt := 37) d_Roads_nearest_33 (by decide) ?_
  exact h
theorem q_Roads_nearest_37 {w : ab_Wd} {d n nc ns : Nat} {I : Nat → Nat → Int32} {L : Nat → Nat → Int64} {res : ab_Re} (v1 : Int32) (v2 : Int32) (v3 : Int32) (s0 : Int32) (hc : nc ≤ res.2.2.2.2.2.1) (hs : ns ≤ res.2.2.2.2.2.2)
    (h : ((¬ ((v1 >>> (v3 &&& 31)) &&& 1) = 1 → (ab_E w d mt_Roads_nearest 55 [.ref kx_roads, .int v1, .int v2, .int v3, .int s0] [] (I, L, ab_RR, n, nc, ns) res)) ∧ (((v1 >>> (v3 &&& 31)) &&& 1) = 1 → ((s0 = 0 → (ab_E w d mt_Roads_nearest 55 [.ref kx_roads, .int v1, .int v2, .int v3, .int s0] [] (I, L, ab_RR, n, nc, ns) res)) ∧ (¬ s0 = 0 → (ab_E w d mt_Roads_nearest 55 [.ref kx_roads, .int v1, .int v3, .int v3, .int s0] [] (I, L, ab_RR, n, nc, ns) res)))))) : ab_E w d mt_Roads_nearest 37 [.ref kx_roads, .int v1, .int v2, .int v3, .null] [.int s0] (I, L, ab_RR, n, nc, ns) res := by
  refine ab_istore (i := 4) d_Roads_nearest_37 (by decide) (Or.inr rfl) ?_
  refine ab_iload_n (i := 1) d_Roads_nearest_39 rfl rfl ?_
  refine ab_iload_n (i := 3) d_Roads_nearest_40 rfl rfl ?_
  refine ab_ishr d_Roads_nearest_41 ?_
  refine ab_iconst (v := 1) d_Roads_nearest_42 rfl ?_
  refine ab_iand d_Roads_nearest_43 ?_
  refine ab_iconst (v := 1) d_Roads_nearest_44 rfl ?_
  refine ab_icmp_ne (tgt := 55) d_Roads_nearest_45 (by decide) (fun c1 => ?_) (fun c1 => ?_)
  · have h := h.1 c1
    exact h
  · have h := h.2 c1
    refine ab_iload (i := 4) d_Roads_nearest_48 rfl ?_
    refine ab_if_eq (tgt := 55) d_Roads_nearest_50 (by decide) (fun c2 => ?_) (fun c2 => ?_)
    · have h := h.1 c2
      exact h
    · have h := h.2 c2
      refine ab_iload_n (i := 3) d_Roads_nearest_53 rfl rfl ?_
      refine ab_istore_n (i := 2) d_Roads_nearest_54 rfl (by decide) (Or.inr rfl) ?_
      exact h
theorem q_Roads_nearest_55 {w : ab_Wd} {d n nc ns : Nat} {I : Nat → Nat → Int32} {L : Nat → Nat → Int64} {res : ab_Re} (v1 : Int32) (v2 : Int32) (v3 : Int32) (v4 : Int32) (hc : nc ≤ res.2.2.2.2.2.1) (hs : ns ≤ res.2.2.2.2.2.2)
    (h : ab_E w d mt_Roads_nearest 4 [.ref kx_roads, .int v1, .int v2, .int (v3 + 1), .null] [] (I, L, ab_RR, n, nc, ns) res) : ab_E w d mt_Roads_nearest 55 [.ref kx_roads, .int v1, .int v2, .int v3, .int v4] [] (I, L, ab_RR, n, nc, ns) res := by
  refine ab_iinc (i := 3) (v := (v3 + 1)) d_Roads_nearest_55 rfl rfl (by decide) (Or.inr rfl) ?_
  refine ab_goto (tgt := 4) d_Roads_nearest_58 (by decide) ?_
  refine ab_drop 4 ?_
  exact h
