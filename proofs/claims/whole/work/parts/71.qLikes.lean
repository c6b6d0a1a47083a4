theorem d_Likes_countNets_0 : decode (ab_bc mt_Likes_countNets) 0 = .ok (.iconst 0, 1) := by decide +kernel
theorem d_Likes_countNets_1 : decode (ab_bc mt_Likes_countNets) 1 = .ok (.istore_n 2, 1) := by decide +kernel
theorem d_Likes_countNets_2 : decode (ab_bc mt_Likes_countNets) 2 = .ok (.iload_n 2, 1) := by decide +kernel
theorem d_Likes_countNets_3 : decode (ab_bc mt_Likes_countNets) 3 = .ok (.bipush 10, 2) := by decide +kernel
theorem d_Likes_countNets_5 : decode (ab_bc mt_Likes_countNets) 5 = .ok (.if_icmp .ge 23, 3) := by decide +kernel
theorem d_Likes_countNets_8 : decode (ab_bc mt_Likes_countNets) 8 = .ok (.aload_n 0, 1) := by decide +kernel
theorem d_Likes_countNets_9 : decode (ab_bc mt_Likes_countNets) 9 = .ok (.getfield 9, 3) := by decide +kernel
theorem d_Likes_countNets_12 : decode (ab_bc mt_Likes_countNets) 12 = .ok (.iload_n 2, 1) := by decide +kernel
theorem d_Likes_countNets_13 : decode (ab_bc mt_Likes_countNets) 13 = .ok (.iload_n 2, 1) := by decide +kernel
theorem d_Likes_countNets_14 : decode (ab_bc mt_Likes_countNets) 14 = .ok (.iastore, 1) := by decide +kernel
theorem d_Likes_countNets_15 : decode (ab_bc mt_Likes_countNets) 15 = .ok (.aload_n 0, 1) := by decide +kernel
theorem d_Likes_countNets_16 : decode (ab_bc mt_Likes_countNets) 16 = .ok (.getfield 15, 3) := by decide +kernel
theorem d_Likes_countNets_19 : decode (ab_bc mt_Likes_countNets) 19 = .ok (.iload_n 2, 1) := by decide +kernel
theorem d_Likes_countNets_20 : decode (ab_bc mt_Likes_countNets) 20 = .ok (.iload_n 2, 1) := by decide +kernel
theorem d_Likes_countNets_21 : decode (ab_bc mt_Likes_countNets) 21 = .ok (.iastore, 1) := by decide +kernel
theorem d_Likes_countNets_22 : decode (ab_bc mt_Likes_countNets) 22 = .ok (.iinc 2 1, 3) := by decide +kernel
theorem d_Likes_countNets_25 : decode (ab_bc mt_Likes_countNets) 25 = .ok (.goto (-23), 3) := by decide +kernel
theorem d_Likes_countNets_28 : decode (ab_bc mt_Likes_countNets) 28 = .ok (.aload_n 0, 1) := by decide +kernel
theorem d_Likes_countNets_29 : decode (ab_bc mt_Likes_countNets) 29 = .ok (.invokevirtual 25, 3) := by decide +kernel
theorem d_Likes_countNets_32 : decode (ab_bc mt_Likes_countNets) 32 = .ok (.lconst 1, 1) := by decide +kernel
theorem d_Likes_countNets_33 : decode (ab_bc mt_Likes_countNets) 33 = .ok (.lstore_n 2, 1) := by decide +kernel
theorem d_Likes_countNets_34 : decode (ab_bc mt_Likes_countNets) 34 = .ok (.iconst 0, 1) := by decide +kernel
theorem d_Likes_countNets_35 : decode (ab_bc mt_Likes_countNets) 35 = .ok (.istore 4, 2) := by decide +kernel
theorem d_Likes_countNets_37 : decode (ab_bc mt_Likes_countNets) 37 = .ok (.iload 4, 2) := by decide +kernel
theorem d_Likes_countNets_39 : decode (ab_bc mt_Likes_countNets) 39 = .ok (.aload_n 1, 1) := by decide +kernel
theorem d_Likes_countNets_40 : decode (ab_bc mt_Likes_countNets) 40 = .ok (.getfield 28, 3) := by decide +kernel
theorem d_Likes_countNets_43 : decode (ab_bc mt_Likes_countNets) 43 = .ok (.if_icmp .ge 103, 3) := by decide +kernel
theorem d_Likes_countNets_46 : decode (ab_bc mt_Likes_countNets) 46 = .ok (.aload_n 1, 1) := by decide +kernel
theorem d_Likes_countNets_47 : decode (ab_bc mt_Likes_countNets) 47 = .ok (.getfield 34, 3) := by decide +kernel
theorem d_Likes_countNets_50 : decode (ab_bc mt_Likes_countNets) 50 = .ok (.iload 4, 2) := by decide +kernel
theorem d_Likes_countNets_52 : decode (ab_bc mt_Likes_countNets) 52 = .ok (.iaload, 1) := by decide +kernel
theorem d_Likes_countNets_53 : decode (ab_bc mt_Likes_countNets) 53 = .ok (.istore 5, 2) := by decide +kernel
theorem d_Likes_countNets_55 : decode (ab_bc mt_Likes_countNets) 55 = .ok (.aload_n 1, 1) := by decide +kernel
theorem d_Likes_countNets_56 : decode (ab_bc mt_Likes_countNets) 56 = .ok (.iload 5, 2) := by decide +kernel
theorem d_Likes_countNets_58 : decode (ab_bc mt_Likes_countNets) 58 = .ok (.invokevirtual 37, 3) := by decide +kernel
theorem d_Likes_countNets_61 : decode (ab_bc mt_Likes_countNets) 61 = .ok (.ifCond .eq 21, 3) := by decide +kernel
theorem d_Likes_countNets_64 : decode (ab_bc mt_Likes_countNets) 64 = .ok (.aload_n 0, 1) := by decide +kernel
theorem d_Likes_countNets_65 : decode (ab_bc mt_Likes_countNets) 65 = .ok (.aload_n 1, 1) := by decide +kernel
theorem d_Likes_countNets_66 : decode (ab_bc mt_Likes_countNets) 66 = .ok (.getfield 41, 3) := by decide +kernel
theorem d_Likes_countNets_69 : decode (ab_bc mt_Likes_countNets) 69 = .ok (.iload 5, 2) := by decide +kernel
theorem d_Likes_countNets_71 : decode (ab_bc mt_Likes_countNets) 71 = .ok (.iaload, 1) := by decide +kernel
theorem d_Likes_countNets_72 : decode (ab_bc mt_Likes_countNets) 72 = .ok (.aload_n 1, 1) := by decide +kernel
theorem d_Likes_countNets_73 : decode (ab_bc mt_Likes_countNets) 73 = .ok (.getfield 44, 3) := by decide +kernel
theorem d_Likes_countNets_76 : decode (ab_bc mt_Likes_countNets) 76 = .ok (.iload 5, 2) := by decide +kernel
theorem d_Likes_countNets_78 : decode (ab_bc mt_Likes_countNets) 78 = .ok (.iaload, 1) := by decide +kernel
theorem d_Likes_countNets_79 : decode (ab_bc mt_Likes_countNets) 79 = .ok (.invokevirtual 47, 3) := by decide +kernel
theorem d_Likes_countNets_82 : decode (ab_bc mt_Likes_countNets) 82 = .ok (.iload 4, 2) := by decide +kernel
theorem d_Likes_countNets_84 : decode (ab_bc mt_Likes_countNets) 84 = .ok (.iconst 1, 1) := by decide +kernel
theorem d_Likes_countNets_85 : decode (ab_bc mt_Likes_countNets) 85 = .ok (.iadd, 1) := by decide +kernel
theorem d_Likes_countNets_86 : decode (ab_bc mt_Likes_countNets) 86 = .ok (.aload_n 1, 1) := by decide +kernel
theorem d_Likes_countNets_87 : decode (ab_bc mt_Likes_countNets) 87 = .ok (.getfield 28, 3) := by decide +kernel
theorem d_Likes_countNets_90 : decode (ab_bc mt_Likes_countNets) 90 = .ok (.if_icmp .ne 7, 3) := by decide +kernel
theorem d_Likes_countNets_93 : decode (ab_bc mt_Likes_countNets) 93 = .ok (.iconst 1, 1) := by decide +kernel
theorem d_Likes_countNets_94 : decode (ab_bc mt_Likes_countNets) 94 = .ok (.goto 4, 3) := by decide +kernel
theorem d_Likes_countNets_97 : decode (ab_bc mt_Likes_countNets) 97 = .ok (.iconst 0, 1) := by decide +kernel
theorem d_Likes_countNets_98 : decode (ab_bc mt_Likes_countNets) 98 = .ok (.istore 6, 2) := by decide +kernel
theorem d_Likes_countNets_100 : decode (ab_bc mt_Likes_countNets) 100 = .ok (.iload 6, 2) := by decide +kernel
theorem d_Likes_countNets_102 : decode (ab_bc mt_Likes_countNets) 102 = .ok (.ifCond .ne 27, 3) := by decide +kernel
theorem d_Likes_countNets_105 : decode (ab_bc mt_Likes_countNets) 105 = .ok (.aload_n 1, 1) := by decide +kernel
theorem d_Likes_countNets_106 : decode (ab_bc mt_Likes_countNets) 106 = .ok (.getfield 51, 3) := by decide +kernel
theorem d_Likes_countNets_109 : decode (ab_bc mt_Likes_countNets) 109 = .ok (.aload_n 1, 1) := by decide +kernel
theorem d_Likes_countNets_110 : decode (ab_bc mt_Likes_countNets) 110 = .ok (.getfield 34, 3) := by decide +kernel
theorem d_Likes_countNets_113 : decode (ab_bc mt_Likes_countNets) 113 = .ok (.iload 4, 2) := by decide +kernel
theorem d_Likes_countNets_115 : decode (ab_bc mt_Likes_countNets) 115 = .ok (.iconst 1, 1) := by decide +kernel
theorem d_Likes_countNets_116 : decode (ab_bc mt_Likes_countNets) 116 = .ok (.iadd, 1) := by decide +kernel
theorem d_Likes_countNets_117 : decode (ab_bc mt_Likes_countNets) 117 = .ok (.iaload, 1) := by decide +kernel
theorem d_Likes_countNets_118 : decode (ab_bc mt_Likes_countNets) 118 = .ok (.iaload, 1) := by decide +kernel
theorem d_Likes_countNets_119 : decode (ab_bc mt_Likes_countNets) 119 = .ok (.aload_n 1, 1) := by decide +kernel
theorem d_Likes_countNets_120 : decode (ab_bc mt_Likes_countNets) 120 = .ok (.getfield 51, 3) := by decide +kernel
theorem d_Likes_countNets_123 : decode (ab_bc mt_Likes_countNets) 123 = .ok (.iload 5, 2) := by decide +kernel
theorem d_Likes_countNets_125 : decode (ab_bc mt_Likes_countNets) 125 = .ok (.iaload, 1) := by decide +kernel
theorem d_Likes_countNets_126 : decode (ab_bc mt_Likes_countNets) 126 = .ok (.if_icmp .eq 14, 3) := by decide +kernel
theorem d_Likes_countNets_129 : decode (ab_bc mt_Likes_countNets) 129 = .ok (.lload_n 2, 1) := by decide +kernel
theorem d_Likes_countNets_130 : decode (ab_bc mt_Likes_countNets) 130 = .ok (.aload_n 0, 1) := by decide +kernel
theorem d_Likes_countNets_131 : decode (ab_bc mt_Likes_countNets) 131 = .ok (.invokevirtual 54, 3) := by decide +kernel
theorem d_Likes_countNets_134 : decode (ab_bc mt_Likes_countNets) 134 = .ok (.lmul, 1) := by decide +kernel
theorem d_Likes_countNets_135 : decode (ab_bc mt_Likes_countNets) 135 = .ok (.lstore_n 2, 1) := by decide +kernel
theorem d_Likes_countNets_136 : decode (ab_bc mt_Likes_countNets) 136 = .ok (.aload_n 0, 1) := by decide +kernel
theorem d_Likes_countNets_137 : decode (ab_bc mt_Likes_countNets) 137 = .ok (.invokevirtual 58, 3) := by decide +kernel
theorem d_Likes_countNets_140 : decode (ab_bc mt_Likes_countNets) 140 = .ok (.iinc 4 1, 3) := by decide +kernel
theorem d_Likes_countNets_143 : decode (ab_bc mt_Likes_countNets) 143 = .ok (.goto (-106), 3) := by decide +kernel
theorem d_Likes_countNets_146 : decode (ab_bc mt_Likes_countNets) 146 = .ok (.lload_n 2, 1) := by decide +kernel
theorem d_Likes_countNets_147 : decode (ab_bc mt_Likes_countNets) 147 = .ok (.lreturn, 1) := by decide +kernel
-- CableKeeper$Likes.countNets(LCableKeeper$Cables;)J over kx_likes, kx_now_cables
theorem q_Likes_countNets_0 {w : ab_Wd} {d n nc ns : Nat} {I : Nat → Nat → Int32} {L : Nat → Nat → Int64} {res : ab_Re}  (hc : nc ≤ res.2.2.2.2.2.1) (hs : ns ≤ res.2.2.2.2.2.2)
    (h : ab_E w (d + 1) mt_Likes_countNets 2 [.ref kx_likes, .ref kx_now_cables, .int 0, .null, .null, .null, .null] [] (I, L, ab_RR, n, nc, ns) res) : ab_E w (d + 1) mt_Likes_countNets 0 [.ref kx_likes, .ref kx_now_cables, .null, .null, .null, .null, .null] [] (I, L, ab_RR, n, nc, ns) res := by
  refine ab_iconst (v := 0) d_Likes_countNets_0 rfl ?_
  refine ab_istore_n (i := 2) d_Likes_countNets_1 rfl (by decide) (Or.inr rfl) ?_
  exact h
theorem q_Likes_countNets_2 {w : ab_Wd} {d n nc ns : Nat} {I : Nat → Nat → Int32} {L : Nat → Nat → Int64} {res : ab_Re} (v2 : Int32) (hc : nc ≤ res.2.2.2.2.2.1) (hs : ns ≤ res.2.2.2.2.2.2)
    (h : ((10 ≤ v2 → (∃ (L3 : Nat → Nat → Int64), ab_C w d mt_Likes_clearMatrix [.ref kx_likes] (I, L, ab_RR, n, nc, ns) (.inl none, (I, L3, ab_RR, n, nc, ns)) ∧ ab_E w (d + 1) mt_Likes_countNets 37 [.ref kx_likes, .ref kx_now_cables, .long 1, .null, .int 0, .null, .null] [] (I, L3, ab_RR, n, nc, ns) res)) ∧ (¬ 10 ≤ v2 → ((vp_in v2 10) ∧ ab_E w (d + 1) mt_Likes_countNets 2 [.ref kx_likes, .ref kx_now_cables, .int (v2 + 1), .null, .null, .null, .null] [] ((ab_up (ab_up I kx_likes_before v2.toNatClampNeg v2) kx_likes_behind v2.toNatClampNeg v2), L, ab_RR, n, nc, ns) res)))) : ab_E w (d + 1) mt_Likes_countNets 2 [.ref kx_likes, .ref kx_now_cables, .int v2, .null, .null, .null, .null] [] (I, L, ab_RR, n, nc, ns) res := by
  refine ab_iload_n (i := 2) d_Likes_countNets_2 rfl rfl ?_
  refine ab_bipush (v := 10) d_Likes_countNets_3 rfl ?_
  refine ab_icmp_ge (tgt := 28) d_Likes_countNets_5 (by decide) (fun c1 => ?_) (fun c1 => ?_)
  · have h := h.1 c1
    refine ab_aload_n (i := 0) d_Likes_countNets_28 rfl rfl ?_
    obtain ⟨L3, hC, h⟩ := h
    refine ab_callV (me2 := mt_Likes_clearMatrix) (b := kx_likes) (as := []) (st := []) (rv := none) (M2 := (I, L3, ab_RR, n, nc, ns)) d_Likes_countNets_29 ce_Likes_clearMatrix v_535 v_537 v_5 (by decide) rfl (Nat.le_of_ble_eq_true rfl) hC (Nat.le_refl _) (Nat.le_refl _) hc hs (fun j h9 => by cases h9) (fun _ _ => rfl) ?_
    show ab_E w (d + 1) mt_Likes_countNets 32 [.ref kx_likes, .ref kx_now_cables, .int v2, .null, .null, .null, .null] [] (I, L3, ab_RR, n, nc, ns) res
    refine ab_lconst (v := 1) d_Likes_countNets_32 rfl ?_
    refine ab_lstore_n (i := 2) d_Likes_countNets_33 rfl (by decide) (Or.inr rfl) ?_
    refine ab_iconst (v := 0) d_Likes_countNets_34 rfl ?_
    refine ab_istore (i := 4) d_Likes_countNets_35 (by decide) (Or.inr rfl) ?_
    exact h
  · have h := h.2 c1
    refine ab_aload_n (i := 0) d_Likes_countNets_8 rfl rfl ?_
    refine ab_getR (ci := 3) (k := 0) (j := kx_likes_before) d_Likes_countNets_9 v_407 rfl (by decide) (by decide) rfl r_kx_likes_0 ?_
    refine ab_iload_n (i := 2) d_Likes_countNets_12 rfl rfl ?_
    refine ab_iload_n (i := 2) d_Likes_countNets_13 rfl rfl ?_
    have g4 := h.1; have h := h.2
    refine ab_iast d_Likes_countNets_14 rfl rfl g4 ?_
    refine ab_aload_n (i := 0) d_Likes_countNets_15 rfl rfl ?_
    refine ab_getR (ci := 3) (k := 1) (j := kx_likes_behind) d_Likes_countNets_16 v_408 rfl (by decide) (by decide) rfl r_kx_likes_1 ?_
    refine ab_iload_n (i := 2) d_Likes_countNets_19 rfl rfl ?_
    refine ab_iload_n (i := 2) d_Likes_countNets_20 rfl rfl ?_
    refine ab_iast d_Likes_countNets_21 rfl rfl g4 ?_
    refine ab_iinc (i := 2) (v := (v2 + 1)) d_Likes_countNets_22 rfl rfl (by decide) (Or.inr rfl) ?_
    refine ab_goto (tgt := 2) d_Likes_countNets_25 (by decide) ?_
    exact h
theorem q_Likes_countNets_37 {w : ab_Wd} {d n nc ns : Nat} {I : Nat → Nat → Int32} {L : Nat → Nat → Int64} {res : ab_Re} (v2 : Int64) (v4 : Int32) (hc : nc ≤ res.2.2.2.2.2.1) (hs : ns ≤ res.2.2.2.2.2.2)
    (h : (((I kx_now_cables 1) ≤ v4 → (res = (.inl (some (.long v2)), (I, L, ab_RR, n, nc, ns)))) ∧ (¬ (I kx_now_cables 1) ≤ v4 → ((vp_in v4 24) ∧ ∃ (r3 : Int32), ab_C w d mt_Cables_isSound [.ref kx_now_cables, .int (I kx_now_cables_order v4.toNatClampNeg)] (I, L, ab_RR, n, nc, ns) (.inl (some (.int r3)), (I, L, ab_RR, n, nc, ns)) ∧ ((r3 = 0 → (ab_E w (d + 1) mt_Likes_countNets 82 [.ref kx_likes, .ref kx_now_cables, .long v2, .null, .int v4, .int (I kx_now_cables_order v4.toNatClampNeg), .null] [] (I, L, ab_RR, n, nc, ns) res)) ∧ (¬ r3 = 0 → ((vp_in (I kx_now_cables_order v4.toNatClampNeg) 24) ∧ ∃ (I7 : Nat → Nat → Int32) (L8 : Nat → Nat → Int64), ab_C w d mt_Likes_enter [.ref kx_likes, .int (I kx_now_cables_first (I kx_now_cables_order v4.toNatClampNeg).toNatClampNeg), .int (I kx_now_cables_second (I kx_now_cables_order v4.toNatClampNeg).toNatClampNeg)] (I, L, ab_RR, n, nc, ns) (.inl none, (I7, L8, ab_RR, n, nc, ns)) ∧ ab_E w (d + 1) mt_Likes_countNets 82 [.ref kx_likes, .ref kx_now_cables, .long v2, .null, .int v4, .int (I kx_now_cables_order v4.toNatClampNeg), .null] [] (I7, L8, ab_RR, n, nc, ns) res))))))) : ab_E w (d + 1) mt_Likes_countNets 37 [.ref kx_likes, .ref kx_now_cables, .long v2, .null, .int v4, .null, .null] [] (I, L, ab_RR, n, nc, ns) res := by
  refine ab_iload (i := 4) d_Likes_countNets_37 rfl ?_
  refine ab_aload_n (i := 1) d_Likes_countNets_39 rfl rfl ?_
  refine ab_getI (ci := 1) (k := 1) d_Likes_countNets_40 v_194 rfl (by decide) (by decide) rfl ?_
  refine ab_icmp_ge (tgt := 146) d_Likes_countNets_43 (by decide) (fun c1 => ?_) (fun c1 => ?_)
  · have h := h.1 c1
    refine ab_lload_n (i := 2) d_Likes_countNets_146 rfl rfl ?_
    exact ab_lret d_Likes_countNets_147 rfl h
  · have h := h.2 c1
    refine ab_aload_n (i := 1) d_Likes_countNets_46 rfl rfl ?_
    refine ab_getR (ci := 1) (k := 7) (j := kx_now_cables_order) d_Likes_countNets_47 v_230 rfl (by decide) (by decide) rfl r_kx_now_cables_7 ?_
    refine ab_iload (i := 4) d_Likes_countNets_50 rfl ?_
    have g2 := h.1; have h := h.2
    refine ab_iald d_Likes_countNets_52 rfl rfl g2 ?_
    refine ab_istore (i := 5) d_Likes_countNets_53 (by decide) (Or.inr rfl) ?_
    refine ab_aload_n (i := 1) d_Likes_countNets_55 rfl rfl ?_
    refine ab_iload (i := 5) d_Likes_countNets_56 rfl ?_
    obtain ⟨r3, hC, h⟩ := h
    refine ab_callV (me2 := mt_Cables_isSound) (b := kx_now_cables) (as := [.int (I kx_now_cables_order v4.toNatClampNeg)]) (st := []) (rv := (some (.int r3))) (M2 := (I, L, ab_RR, n, nc, ns)) d_Likes_countNets_58 ce_Cables_isSound v_539 v_540 v_541 (by decide) rfl (Nat.le_of_ble_eq_true rfl) hC (Nat.le_refl _) (Nat.le_refl _) hc hs (fun j h9 => by cases h9) (fun _ _ => rfl) ?_
    show ab_E w (d + 1) mt_Likes_countNets 61 [.ref kx_likes, .ref kx_now_cables, .long v2, .null, .int v4, .int (I kx_now_cables_order v4.toNatClampNeg), .null] [.int r3] (I, L, ab_RR, n, nc, ns) res
    refine ab_if_eq (tgt := 82) d_Likes_countNets_61 (by decide) (fun c4 => ?_) (fun c4 => ?_)
    · have h := h.1 c4
      exact h
    · have h := h.2 c4
      refine ab_aload_n (i := 0) d_Likes_countNets_64 rfl rfl ?_
      refine ab_aload_n (i := 1) d_Likes_countNets_65 rfl rfl ?_
      refine ab_getR (ci := 1) (k := 3) (j := kx_now_cables_first) d_Likes_countNets_66 v_206 rfl (by decide) (by decide) rfl r_kx_now_cables_3 ?_
      refine ab_iload (i := 5) d_Likes_countNets_69 rfl ?_
      have g5 := h.1; have h := h.2
      refine ab_iald d_Likes_countNets_71 rfl rfl g5 ?_
      refine ab_aload_n (i := 1) d_Likes_countNets_72 rfl rfl ?_
      refine ab_getR (ci := 1) (k := 4) (j := kx_now_cables_second) d_Likes_countNets_73 v_213 rfl (by decide) (by decide) rfl r_kx_now_cables_4 ?_
      refine ab_iload (i := 5) d_Likes_countNets_76 rfl ?_
      refine ab_iald d_Likes_countNets_78 rfl rfl g5 ?_
      obtain ⟨I7, L8, hC, h⟩ := h
      refine ab_callV (me2 := mt_Likes_enter) (b := kx_likes) (as := [.int (I kx_now_cables_first (I kx_now_cables_order v4.toNatClampNeg).toNatClampNeg), .int (I kx_now_cables_second (I kx_now_cables_order v4.toNatClampNeg).toNatClampNeg)]) (st := []) (rv := none) (M2 := (I7, L8, ab_RR, n, nc, ns)) d_Likes_countNets_79 ce_Likes_enter v_543 v_545 v_6 (by decide) rfl (Nat.le_of_ble_eq_true rfl) hC (Nat.le_refl _) (Nat.le_refl _) hc hs (fun j h9 => by cases h9) (fun _ _ => rfl) ?_
      show ab_E w (d + 1) mt_Likes_countNets 82 [.ref kx_likes, .ref kx_now_cables, .long v2, .null, .int v4, .int (I kx_now_cables_order v4.toNatClampNeg), .null] [] (I7, L8, ab_RR, n, nc, ns) res
      exact h
theorem q_Likes_countNets_82 {w : ab_Wd} {d n nc ns : Nat} {I : Nat → Nat → Int32} {L : Nat → Nat → Int64} {res : ab_Re} (v2 : Int64) (v4 : Int32) (v5 : Int32) (hc : nc ≤ res.2.2.2.2.2.1) (hs : ns ≤ res.2.2.2.2.2.2)
    (h : ((¬ (v4 + 1) = (I kx_now_cables 1) → (ab_E w (d + 1) mt_Likes_countNets 98 [.ref kx_likes, .ref kx_now_cables, .long v2, .null, .int v4, .int v5, .null] [.int 0] (I, L, ab_RR, n, nc, ns) res)) ∧ ((v4 + 1) = (I kx_now_cables 1) → (ab_E w (d + 1) mt_Likes_countNets 98 [.ref kx_likes, .ref kx_now_cables, .long v2, .null, .int v4, .int v5, .null] [.int 1] (I, L, ab_RR, n, nc, ns) res)))) : ab_E w (d + 1) mt_Likes_countNets 82 [.ref kx_likes, .ref kx_now_cables, .long v2, .null, .int v4, .int v5, .null] [] (I, L, ab_RR, n, nc, ns) res := by
  refine ab_iload (i := 4) d_Likes_countNets_82 rfl ?_
  refine ab_iconst (v := 1) d_Likes_countNets_84 rfl ?_
  refine ab_iadd d_Likes_countNets_85 ?_
  refine ab_aload_n (i := 1) d_Likes_countNets_86 rfl rfl ?_
  refine ab_getI (ci := 1) (k := 1) d_Likes_countNets_87 v_194 rfl (by decide) (by decide) rfl ?_
  refine ab_icmp_ne (tgt := 97) d_Likes_countNets_90 (by decide) (fun c1 => ?_) (fun c1 => ?_)
  · have h := h.1 c1
    refine ab_iconst (v := 0) d_Likes_countNets_97 rfl ?_
    exact h
  · have h := h.2 c1
    refine ab_iconst (v := 1) d_Likes_countNets_93 rfl ?_
    refine ab_goto (tgt := 98) d_Likes_countNets_94 (by decide) ?_
    exact h
theorem q_Likes_countNets_98 {w : ab_Wd} {d n nc ns : Nat} {I : Nat → Nat → Int32} {L : Nat → Nat → Int64} {res : ab_Re} (v2 : Int64) (v4 : Int32) (v5 : Int32) (s0 : Int32) (hc : nc ≤ res.2.2.2.2.2.1) (hs : ns ≤ res.2.2.2.2.2.2)
    (h : ((¬ s0 = 0 → (ab_E w (d + 1) mt_Likes_countNets 129 [.ref kx_likes, .ref kx_now_cables, .long v2, .null, .int v4, .int v5, .int s0] [] (I, L, ab_RR, n, nc, ns) res)) ∧ (s0 = 0 → ((vp_in (v4 + 1) 24) ∧ (vp_in (I kx_now_cables_order (v4 + 1).toNatClampNeg) 24) ∧ (vp_in v5 24) ∧ (((I kx_now_cables_price (I kx_now_cables_order (v4 + 1).toNatClampNeg).toNatClampNeg) = (I kx_now_cables_price v5.toNatClampNeg) → (ab_E w (d + 1) mt_Likes_countNets 140 [.ref kx_likes, .ref kx_now_cables, .long v2, .null, .int v4, .int v5, .int s0] [] (I, L, ab_RR, n, nc, ns) res)) ∧ (¬ (I kx_now_cables_price (I kx_now_cables_order (v4 + 1).toNatClampNeg).toNatClampNeg) = (I kx_now_cables_price v5.toNatClampNeg) → (ab_E w (d + 1) mt_Likes_countNets 129 [.ref kx_likes, .ref kx_now_cables, .long v2, .null, .int v4, .int v5, .int s0] [] (I, L, ab_RR, n, nc, ns) res))))))) : ab_E w (d + 1) mt_Likes_countNets 98 [.ref kx_likes, .ref kx_now_cables, .long v2, .null, .int v4, .int v5, .null] [.int s0] (I, L, ab_RR, n, nc, ns) res := by
  refine ab_istore (i := 6) d_Likes_countNets_98 (by decide) (Or.inr rfl) ?_
  refine ab_iload (i := 6) d_Likes_countNets_100 rfl ?_
  refine ab_if_ne (tgt := 129) d_Likes_countNets_102 (by decide) (fun c1 => ?_) (fun c1 => ?_)
  · have h := h.1 c1
    exact h
  · have h := h.2 c1
    refine ab_aload_n (i := 1) d_Likes_countNets_105 rfl rfl ?_
    refine ab_getR (ci := 1) (k := 5) (j := kx_now_cables_price) d_Likes_countNets_106 v_220 rfl (by decide) (by decide) rfl r_kx_now_cables_5 ?_
    refine ab_aload_n (i := 1) d_Likes_countNets_109 rfl rfl ?_
    refine ab_getR (ci := 1) (k := 7) (j := kx_now_cables_order) d_Likes_countNets_110 v_230 rfl (by decide) (by decide) rfl r_kx_now_cables_7 ?_
    refine ab_iload (i := 4) d_Likes_countNets_113 rfl ?_
    refine ab_iconst (v := 1) d_Likes_countNets_115 rfl ?_
    refine ab_iadd d_Likes_countNets_116 ?_
    have g2 := h.1; have h := h.2
    refine ab_iald d_Likes_countNets_117 rfl rfl g2 ?_
    have g3 := h.1; have h := h.2
    refine ab_iald d_Likes_countNets_118 rfl rfl g3 ?_
    refine ab_aload_n (i := 1) d_Likes_countNets_119 rfl rfl ?_
    refine ab_getR (ci := 1) (k := 5) (j := kx_now_cables_price) d_Likes_countNets_120 v_220 rfl (by decide) (by decide) rfl r_kx_now_cables_5 ?_
    refine ab_iload (i := 5) d_Likes_countNets_123 rfl ?_
    have g4 := h.1; have h := h.2
    refine ab_iald d_Likes_countNets_125 rfl rfl g4 ?_
    refine ab_icmp_eq (tgt := 140) d_Likes_countNets_126 (by decide) (fun c5 => ?_) (fun c5 => ?_)
    · have h := h.1 c5
      exact h
    · have h := h.2 c5
      exact h
theorem q_Likes_countNets_129 {w : ab_Wd} {d n nc ns : Nat} {I : Nat → Nat → Int32} {L : Nat → Nat → Int64} {res : ab_Re} (v2 : Int64) (v4 : Int32) (v5 : Int32) (v6 : Int32) (hc : nc ≤ res.2.2.2.2.2.1) (hs : ns ≤ res.2.2.2.2.2.2)
    (h : ∃ (r1 : Int64) (I2 : Nat → Nat → Int32) (L3 : Nat → Nat → Int64), ab_C w d mt_Likes_choices [.ref kx_likes] (I, L, ab_RR, n, nc, ns) (.inl (some (.long r1)), (I2, L3, ab_RR, n, nc, ns)) ∧ ∃ (I5 : Nat → Nat → Int32) (L6 : Nat → Nat → Int64), ab_C w d mt_Likes_passPrice [.ref kx_likes] (I2, L3, ab_RR, n, nc, ns) (.inl none, (I5, L6, ab_RR, n, nc, ns)) ∧ ab_E w (d + 1) mt_Likes_countNets 140 [.ref kx_likes, .ref kx_now_cables, .long (v2 * r1), .null, .int v4, .int v5, .int v6] [] (I5, L6, ab_RR, n, nc, ns) res) : ab_E w (d + 1) mt_Likes_countNets 129 [.ref kx_likes, .ref kx_now_cables, .long v2, .null, .int v4, .int v5, .int v6] [] (I, L, ab_RR, n, nc, ns) res := by
  refine ab_lload_n (i := 2) d_Likes_countNets_129 rfl rfl ?_
  refine ab_aload_n (i := 0) d_Likes_countNets_130 rfl rfl ?_
  obtain ⟨r1, I2, L3, hC, h⟩ := h
  refine ab_callV (me2 := mt_Likes_choices) (b := kx_likes) (as := []) (st := [.long v2]) (rv := (some (.long r1))) (M2 := (I2, L3, ab_RR, n, nc, ns)) d_Likes_countNets_131 ce_Likes_choices v_548 v_550 v_7 (by decide) rfl (Nat.le_of_ble_eq_true rfl) hC (Nat.le_refl _) (Nat.le_refl _) hc hs (fun j h9 => by cases h9) (fun _ _ => rfl) ?_
  show ab_E w (d + 1) mt_Likes_countNets 134 [.ref kx_likes, .ref kx_now_cables, .long v2, .null, .int v4, .int v5, .int v6] [.long r1, .long v2] (I2, L3, ab_RR, n, nc, ns) res
  refine ab_lmul d_Likes_countNets_134 ?_
  refine ab_lstore_n (i := 2) d_Likes_countNets_135 rfl (by decide) (Or.inr rfl) ?_
  refine ab_aload_n (i := 0) d_Likes_countNets_136 rfl rfl ?_
  obtain ⟨I5, L6, hC, h⟩ := h
  refine ab_callV (me2 := mt_Likes_passPrice) (b := kx_likes) (as := []) (st := []) (rv := none) (M2 := (I5, L6, ab_RR, n, nc, ns)) d_Likes_countNets_137 ce_Likes_passPrice v_556 v_558 v_9 (by decide) rfl (Nat.le_of_ble_eq_true rfl) hC (Nat.le_refl _) (Nat.le_refl _) hc hs (fun j h9 => by cases h9) (fun _ _ => rfl) ?_
  show ab_E w (d + 1) mt_Likes_countNets 140 [.ref kx_likes, .ref kx_now_cables, .long (v2 * r1), .null, .int v4, .int v5, .int v6] [] (I5, L6, ab_RR, n, nc, ns) res
  exact h
theorem q_Likes_countNets_140 {w : ab_Wd} {d n nc ns : Nat} {I : Nat → Nat → Int32} {L : Nat → Nat → Int64} {res : ab_Re} (v2 : Int64) (v4 : Int32) (v5 : Int32) (v6 : Int32) (hc : nc ≤ res.2.2.2.2.2.1) (hs : ns ≤ res.2.2.2.2.2.2)
    (h : ab_E w (d + 1) mt_Likes_countNets 37 [.ref kx_likes, .ref kx_now_cables, .long v2, .null, .int (v4 + 1), .null, .null] [] (I, L, ab_RR, n, nc, ns) res) : ab_E w (d + 1) mt_Likes_countNets 140 [.ref kx_likes, .ref kx_now_cables, .long v2, .null, .int v4, .int v5, .int v6] [] (I, L, ab_RR, n, nc, ns) res := by
  refine ab_iinc (i := 4) (v := (v4 + 1)) d_Likes_countNets_140 rfl rfl (by decide) (Or.inr rfl) ?_
  refine ab_goto (tgt := 37) d_Likes_countNets_143 (by decide) ?_
  refine ab_drop 5 ?_
  refine ab_drop 6 ?_
  exact h
theorem d_Likes_choices_0 : decode (ab_bc mt_Likes_choices) 0 = .ok (.iconst 0, 1) := by decide +kernel
theorem d_Likes_choices_1 : decode (ab_bc mt_Likes_choices) 1 = .ok (.istore_n 1, 1) := by decide +kernel
theorem d_Likes_choices_2 : decode (ab_bc mt_Likes_choices) 2 = .ok (.iconst 0, 1) := by decide +kernel
theorem d_Likes_choices_3 : decode (ab_bc mt_Likes_choices) 3 = .ok (.istore_n 2, 1) := by decide +kernel
theorem d_Likes_choices_4 : decode (ab_bc mt_Likes_choices) 4 = .ok (.iload_n 2, 1) := by decide +kernel
theorem d_Likes_choices_5 : decode (ab_bc mt_Likes_choices) 5 = .ok (.bipush 10, 2) := by decide +kernel
theorem d_Likes_choices_7 : decode (ab_bc mt_Likes_choices) 7 = .ok (.if_icmp .ge 39, 3) := by decide +kernel
theorem d_Likes_choices_10 : decode (ab_bc mt_Likes_choices) 10 = .ok (.aload_n 0, 1) := by decide +kernel
theorem d_Likes_choices_11 : decode (ab_bc mt_Likes_choices) 11 = .ok (.getfield 9, 3) := by decide +kernel
theorem d_Likes_choices_14 : decode (ab_bc mt_Likes_choices) 14 = .ok (.iload_n 2, 1) := by decide +kernel
theorem d_Likes_choices_15 : decode (ab_bc mt_Likes_choices) 15 = .ok (.iaload, 1) := by decide +kernel
theorem d_Likes_choices_16 : decode (ab_bc mt_Likes_choices) 16 = .ok (.iload_n 2, 1) := by decide +kernel
theorem d_Likes_choices_17 : decode (ab_bc mt_Likes_choices) 17 = .ok (.if_icmp .ne 23, 3) := by decide +kernel
theorem d_Likes_choices_20 : decode (ab_bc mt_Likes_choices) 20 = .ok (.aload_n 0, 1) := by decide +kernel
theorem d_Likes_choices_21 : decode (ab_bc mt_Likes_choices) 21 = .ok (.getfield 15, 3) := by decide +kernel
theorem d_Likes_choices_24 : decode (ab_bc mt_Likes_choices) 24 = .ok (.iload_n 2, 1) := by decide +kernel
theorem d_Likes_choices_25 : decode (ab_bc mt_Likes_choices) 25 = .ok (.iaload, 1) := by decide +kernel
theorem d_Likes_choices_26 : decode (ab_bc mt_Likes_choices) 26 = .ok (.iload_n 2, 1) := by decide +kernel
theorem d_Likes_choices_27 : decode (ab_bc mt_Likes_choices) 27 = .ok (.if_icmp .eq 13, 3) := by decide +kernel
theorem d_Likes_choices_30 : decode (ab_bc mt_Likes_choices) 30 = .ok (.aload_n 0, 1) := by decide +kernel
theorem d_Likes_choices_31 : decode (ab_bc mt_Likes_choices) 31 = .ok (.getfield 22, 3) := by decide +kernel
theorem d_Likes_choices_34 : decode (ab_bc mt_Likes_choices) 34 = .ok (.iload_n 1, 1) := by decide +kernel
theorem d_Likes_choices_35 : decode (ab_bc mt_Likes_choices) 35 = .ok (.iload_n 2, 1) := by decide +kernel
theorem d_Likes_choices_36 : decode (ab_bc mt_Likes_choices) 36 = .ok (.iastore, 1) := by decide +kernel
theorem d_Likes_choices_37 : decode (ab_bc mt_Likes_choices) 37 = .ok (.iinc 1 1, 3) := by decide +kernel
theorem d_Likes_choices_40 : decode (ab_bc mt_Likes_choices) 40 = .ok (.iinc 2 1, 3) := by decide +kernel
theorem d_Likes_choices_43 : decode (ab_bc mt_Likes_choices) 43 = .ok (.goto (-39), 3) := by decide +kernel
theorem d_Likes_choices_46 : decode (ab_bc mt_Likes_choices) 46 = .ok (.lconst 1, 1) := by decide +kernel
theorem d_Likes_choices_47 : decode (ab_bc mt_Likes_choices) 47 = .ok (.lstore_n 2, 1) := by decide +kernel
theorem d_Likes_choices_48 : decode (ab_bc mt_Likes_choices) 48 = .ok (.iconst 0, 1) := by decide +kernel
theorem d_Likes_choices_49 : decode (ab_bc mt_Likes_choices) 49 = .ok (.istore 4, 2) := by decide +kernel
theorem d_Likes_choices_51 : decode (ab_bc mt_Likes_choices) 51 = .ok (.iload 4, 2) := by decide +kernel
theorem d_Likes_choices_53 : decode (ab_bc mt_Likes_choices) 53 = .ok (.iload_n 1, 1) := by decide +kernel
theorem d_Likes_choices_54 : decode (ab_bc mt_Likes_choices) 54 = .ok (.if_icmp .ge 45, 3) := by decide +kernel
theorem d_Likes_choices_57 : decode (ab_bc mt_Likes_choices) 57 = .ok (.lload_n 2, 1) := by decide +kernel
theorem d_Likes_choices_58 : decode (ab_bc mt_Likes_choices) 58 = .ok (.lstore 5, 2) := by decide +kernel
theorem d_Likes_choices_60 : decode (ab_bc mt_Likes_choices) 60 = .ok (.aload_n 0, 1) := by decide +kernel
theorem d_Likes_choices_61 : decode (ab_bc mt_Likes_choices) 61 = .ok (.getfield 18, 3) := by decide +kernel
theorem d_Likes_choices_64 : decode (ab_bc mt_Likes_choices) 64 = .ok (.aload_n 0, 1) := by decide +kernel
theorem d_Likes_choices_65 : decode (ab_bc mt_Likes_choices) 65 = .ok (.getfield 22, 3) := by decide +kernel
theorem d_Likes_choices_68 : decode (ab_bc mt_Likes_choices) 68 = .ok (.iload 4, 2) := by decide +kernel
theorem d_Likes_choices_70 : decode (ab_bc mt_Likes_choices) 70 = .ok (.iaload, 1) := by decide +kernel
theorem d_Likes_choices_71 : decode (ab_bc mt_Likes_choices) 71 = .ok (.bipush 10, 2) := by decide +kernel
theorem d_Likes_choices_73 : decode (ab_bc mt_Likes_choices) 73 = .ok (.imul, 1) := by decide +kernel
theorem d_Likes_choices_74 : decode (ab_bc mt_Likes_choices) 74 = .ok (.aload_n 0, 1) := by decide +kernel
theorem d_Likes_choices_75 : decode (ab_bc mt_Likes_choices) 75 = .ok (.getfield 22, 3) := by decide +kernel
theorem d_Likes_choices_78 : decode (ab_bc mt_Likes_choices) 78 = .ok (.iload 4, 2) := by decide +kernel
theorem d_Likes_choices_80 : decode (ab_bc mt_Likes_choices) 80 = .ok (.iaload, 1) := by decide +kernel
theorem d_Likes_choices_81 : decode (ab_bc mt_Likes_choices) 81 = .ok (.iadd, 1) := by decide +kernel
theorem d_Likes_choices_82 : decode (ab_bc mt_Likes_choices) 82 = .ok (.laload, 1) := by decide +kernel
theorem d_Likes_choices_83 : decode (ab_bc mt_Likes_choices) 83 = .ok (.lstore_n 2, 1) := by decide +kernel
theorem d_Likes_choices_84 : decode (ab_bc mt_Likes_choices) 84 = .ok (.aload_n 0, 1) := by decide +kernel
theorem d_Likes_choices_85 : decode (ab_bc mt_Likes_choices) 85 = .ok (.iload 4, 2) := by decide +kernel
theorem d_Likes_choices_87 : decode (ab_bc mt_Likes_choices) 87 = .ok (.iload_n 1, 1) := by decide +kernel
theorem d_Likes_choices_88 : decode (ab_bc mt_Likes_choices) 88 = .ok (.lload 5, 2) := by decide +kernel
theorem d_Likes_choices_90 : decode (ab_bc mt_Likes_choices) 90 = .ok (.invokevirtual 71, 3) := by decide +kernel
theorem d_Likes_choices_93 : decode (ab_bc mt_Likes_choices) 93 = .ok (.iinc 4 1, 3) := by decide +kernel
theorem d_Likes_choices_96 : decode (ab_bc mt_Likes_choices) 96 = .ok (.goto (-45), 3) := by decide +kernel
theorem d_Likes_choices_99 : decode (ab_bc mt_Likes_choices) 99 = .ok (.lload_n 2, 1) := by decide +kernel
theorem d_Likes_choices_100 : decode (ab_bc mt_Likes_choices) 100 = .ok (.lreturn, 1) := by decide +kernel
-- CableKeeper$Likes.choices()J over kx_likes
theorem q_Likes_choices_0 {w : ab_Wd} {d n nc ns : Nat} {I : Nat → Nat → Int32} {L : Nat → Nat → Int64} {res : ab_Re}  (hc : nc ≤ res.2.2.2.2.2.1) (hs : ns ≤ res.2.2.2.2.2.2)
    (h : ab_E w (d + 1) mt_Likes_choices 4 [.ref kx_likes, .int 0, .int 0, .null, .null, .null, .null] [] (I, L, ab_RR, n, nc, ns) res) : ab_E w (d + 1) mt_Likes_choices 0 [.ref kx_likes, .null, .null, .null, .null, .null, .null] [] (I, L, ab_RR, n, nc, ns) res := by
  refine ab_iconst (v := 0) d_Likes_choices_0 rfl ?_
  refine ab_istore_n (i := 1) d_Likes_choices_1 rfl (by decide) (Or.inr rfl) ?_
  refine ab_iconst (v := 0) d_Likes_choices_2 rfl ?_
  refine ab_istore_n (i := 2) d_Likes_choices_3 rfl (by decide) (Or.inr rfl) ?_
  exact h
theorem q_Likes_choices_4 {w : ab_Wd} {d n nc ns : Nat} {I : Nat → Nat → Int32} {L : Nat → Nat → Int64} {res : ab_Re} (v1 : Int32) (v2 : Int32) (hc : nc ≤ res.2.2.2.2.2.1) (hs : ns ≤ res.2.2.2.2.2.2)
    (h : ((10 ≤ v2 → (ab_E w (d + 1) mt_Likes_choices 51 [.ref kx_likes, .int v1, .long 1, .null, .int 0, .null, .null] [] (I, L, ab_RR, n, nc, ns) res)) ∧ (¬ 10 ≤ v2 → ((vp_in v2 10) ∧ ((¬ (I kx_likes_before v2.toNatClampNeg) = v2 → (ab_E w (d + 1) mt_Likes_choices 40 [.ref kx_likes, .int v1, .int v2, .null, .null, .null, .null] [] (I, L, ab_RR, n, nc, ns) res)) ∧ ((I kx_likes_before v2.toNatClampNeg) = v2 → (((I kx_likes_behind v2.toNatClampNeg) = v2 → (ab_E w (d + 1) mt_Likes_choices 40 [.ref kx_likes, .int v1, .int v2, .null, .null, .null, .null] [] (I, L, ab_RR, n, nc, ns) res)) ∧ (¬ (I kx_likes_behind v2.toNatClampNeg) = v2 → ((vp_in v1 10) ∧ ab_E w (d + 1) mt_Likes_choices 40 [.ref kx_likes, .int (v1 + 1), .int v2, .null, .null, .null, .null] [] ((ab_up I kx_likes_rows v1.toNatClampNeg v2), L, ab_RR, n, nc, ns) res))))))))) : ab_E w (d + 1) mt_Likes_choices 4 [.ref kx_likes, .int v1, .int v2, .null, .null, .null, .null] [] (I, L, ab_RR, n, nc, ns) res := by
  refine ab_iload_n (i := 2) d_Likes_choices_4 rfl rfl ?_
  refine ab_bipush (v := 10) d_Likes_choices_5 rfl ?_
  refine ab_icmp_ge (tgt := 46) d_Likes_choices_7 (by decide) (fun c1 => ?_) (fun c1 => ?_)
  · have h := h.1 c1
    refine ab_lconst (v := 1) d_Likes_choices_46 rfl ?_
    refine ab_lstore_n (i := 2) d_Likes_choices_47 rfl (by decide) (Or.inr rfl) ?_
    refine ab_iconst (v := 0) d_Likes_choices_48 rfl ?_
    refine ab_istore (i := 4) d_Likes_choices_49 (by decide) (Or.inr rfl) ?_
    exact h
  · have h := h.2 c1
    refine ab_aload_n (i := 0) d_Likes_choices_10 rfl rfl ?_
    refine ab_getR (ci := 3) (k := 0) (j := kx_likes_before) d_Likes_choices_11 v_407 rfl (by decide) (by decide) rfl r_kx_likes_0 ?_
    refine ab_iload_n (i := 2) d_Likes_choices_14 rfl rfl ?_
    have g2 := h.1; have h := h.2
    refine ab_iald d_Likes_choices_15 rfl rfl g2 ?_
    refine ab_iload_n (i := 2) d_Likes_choices_16 rfl rfl ?_
    refine ab_icmp_ne (tgt := 40) d_Likes_choices_17 (by decide) (fun c3 => ?_) (fun c3 => ?_)
    · have h := h.1 c3
      exact h
    · have h := h.2 c3
      refine ab_aload_n (i := 0) d_Likes_choices_20 rfl rfl ?_
      refine ab_getR (ci := 3) (k := 1) (j := kx_likes_behind) d_Likes_choices_21 v_408 rfl (by decide) (by decide) rfl r_kx_likes_1 ?_
      refine ab_iload_n (i := 2) d_Likes_choices_24 rfl rfl ?_
      refine ab_iald d_Likes_choices_25 rfl rfl g2 ?_
      refine ab_iload_n (i := 2) d_Likes_choices_26 rfl rfl ?_
      refine ab_icmp_eq (tgt := 40) d_Likes_choices_27 (by decide) (fun c4 => ?_) (fun c4 => ?_)
      · have h := h.1 c4
        exact h
      · have h := h.2 c4
        refine ab_aload_n (i := 0) d_Likes_choices_30 rfl rfl ?_
        refine ab_getR (ci := 3) (k := 3) (j := kx_likes_rows) d_Likes_choices_31 v_410 rfl (by decide) (by decide) rfl r_kx_likes_3 ?_
        refine ab_iload_n (i := 1) d_Likes_choices_34 rfl rfl ?_
        refine ab_iload_n (i := 2) d_Likes_choices_35 rfl rfl ?_
        have g5 := h.1; have h := h.2
        refine ab_iast d_Likes_choices_36 rfl rfl g5 ?_
        refine ab_iinc (i := 1) (v := (v1 + 1)) d_Likes_choices_37 rfl rfl (by decide) (Or.inr rfl) ?_
        exact h
theorem q_Likes_choices_40 {w : ab_Wd} {d n nc ns : Nat} {I : Nat → Nat → Int32} {L : Nat → Nat → Int64} {res : ab_Re} (v1 : Int32) (v2 : Int32) (hc : nc ≤ res.2.2.2.2.2.1) (hs : ns ≤ res.2.2.2.2.2.2)
    (h : ab_E w (d + 1) mt_Likes_choices 4 [.ref kx_likes, .int v1, .int (v2 + 1), .null, .null, .null, .null] [] (I, L, ab_RR, n, nc, ns) res) : ab_E w (d + 1) mt_Likes_choices 40 [.ref kx_likes, .int v1, .int v2, .null, .null, .null, .null] [] (I, L, ab_RR, n, nc, ns) res := by
  refine ab_iinc (i := 2) (v := (v2 + 1)) d_Likes_choices_40 rfl rfl (by decide) (Or.inr rfl) ?_
  refine ab_goto (tgt := 4) d_Likes_choices_43 (by decide) ?_
  exact h
theorem q_Likes_choices_51 {w : ab_Wd} {d n nc ns : Nat} {I : Nat → Nat → Int32} {L : Nat → Nat → Int64} {res : ab_Re} (v1 : Int32) (v2 : Int64) (v4 : Int32) (hc : nc ≤ res.2.2.2.2.2.1) (hs : ns ≤ res.2.2.2.2.2.2)
    (h : ((v1 ≤ v4 → (res = (.inl (some (.long v2)), (I, L, ab_RR, n, nc, ns)))) ∧ (¬ v1 ≤ v4 → ((vp_in v4 10) ∧ (vp_in (((I kx_likes_rows v4.toNatClampNeg) * 10) + (I kx_likes_rows v4.toNatClampNeg)) 100) ∧ ∃ (L5 : Nat → Nat → Int64), ab_C w d mt_Likes_eliminate [.ref kx_likes, .int v4, .int v1, .long v2] (I, L, ab_RR, n, nc, ns) (.inl none, (I, L5, ab_RR, n, nc, ns)) ∧ ab_E w (d + 1) mt_Likes_choices 51 [.ref kx_likes, .int v1, .long (L kx_likes_matrix (((I kx_likes_rows v4.toNatClampNeg) * 10) + (I kx_likes_rows v4.toNatClampNeg)).toNatClampNeg), .null, .int (v4 + 1), .null, .null] [] (I, L5, ab_RR, n, nc, ns) res)))) : ab_E w (d + 1) mt_Likes_choices 51 [.ref kx_likes, .int v1, .long v2, .null, .int v4, .null, .null] [] (I, L, ab_RR, n, nc, ns) res := by
  refine ab_iload (i := 4) d_Likes_choices_51 rfl ?_
  refine ab_iload_n (i := 1) d_Likes_choices_53 rfl rfl ?_
  refine ab_icmp_ge (tgt := 99) d_Likes_choices_54 (by decide) (fun c1 => ?_) (fun c1 => ?_)
  · have h := h.1 c1
    refine ab_lload_n (i := 2) d_Likes_choices_99 rfl rfl ?_
    exact ab_lret d_Likes_choices_100 rfl h
  · have h := h.2 c1
    refine ab_lload_n (i := 2) d_Likes_choices_57 rfl rfl ?_
    refine ab_lstore (i := 5) d_Likes_choices_58 (by decide) (Or.inr rfl) ?_
    refine ab_aload_n (i := 0) d_Likes_choices_60 rfl rfl ?_
    refine ab_getR (ci := 3) (k := 2) (j := kx_likes_matrix) d_Likes_choices_61 v_409 rfl (by decide) (by decide) rfl r_kx_likes_2 ?_
    refine ab_aload_n (i := 0) d_Likes_choices_64 rfl rfl ?_
    refine ab_getR (ci := 3) (k := 3) (j := kx_likes_rows) d_Likes_choices_65 v_410 rfl (by decide) (by decide) rfl r_kx_likes_3 ?_
    refine ab_iload (i := 4) d_Likes_choices_68 rfl ?_
    have g2 := h.1; have h := h.2
    refine ab_iald d_Likes_choices_70 rfl rfl g2 ?_
    refine ab_bipush (v := 10) d_Likes_choices_71 rfl ?_
    refine ab_imul d_Likes_choices_73 ?_
    refine ab_aload_n (i := 0) d_Likes_choices_74 rfl rfl ?_
    refine ab_getR (ci := 3) (k := 3) (j := kx_likes_rows) d_Likes_choices_75 v_410 rfl (by decide) (by decide) rfl r_kx_likes_3 ?_
    refine ab_iload (i := 4) d_Likes_choices_78 rfl ?_
    refine ab_iald d_Likes_choices_80 rfl rfl g2 ?_
    refine ab_iadd d_Likes_choices_81 ?_
    have g3 := h.1; have h := h.2
    refine ab_lald d_Likes_choices_82 rfl rfl g3 ?_
    refine ab_lstore_n (i := 2) d_Likes_choices_83 rfl (by decide) (Or.inr rfl) ?_
    refine ab_aload_n (i := 0) d_Likes_choices_84 rfl rfl ?_
    refine ab_iload (i := 4) d_Likes_choices_85 rfl ?_
    refine ab_iload_n (i := 1) d_Likes_choices_87 rfl rfl ?_
    refine ab_lload (i := 5) d_Likes_choices_88 rfl ?_
    obtain ⟨L5, hC, h⟩ := h
    refine ab_callV (me2 := mt_Likes_eliminate) (b := kx_likes) (as := [.int v4, .int v1, .long v2]) (st := []) (rv := none) (M2 := (I, L5, ab_RR, n, nc, ns)) d_Likes_choices_90 ce_Likes_eliminate v_552 v_554 v_8 (by decide) rfl (Nat.le_of_ble_eq_true rfl) hC (Nat.le_refl _) (Nat.le_refl _) hc hs (fun j h9 => by cases h9) (fun _ _ => rfl) ?_
    show ab_E w (d + 1) mt_Likes_choices 93 [.ref kx_likes, .int v1, .long (L kx_likes_matrix (((I kx_likes_rows v4.toNatClampNeg) * 10) + (I kx_likes_rows v4.toNatClampNeg)).toNatClampNeg), .null, .int v4, .long v2, .null] [] (I, L5, ab_RR, n, nc, ns) res
    refine ab_iinc (i := 4) (v := (v4 + 1)) d_Likes_choices_93 rfl rfl (by decide) (Or.inr rfl) ?_
    refine ab_goto (tgt := 51) d_Likes_choices_96 (by decide) ?_
    refine ab_drop 5 ?_
    exact h
theorem d_Likes_clearMatrix_0 : decode (ab_bc mt_Likes_clearMatrix) 0 = .ok (.iconst 0, 1) := by decide +kernel
theorem d_Likes_clearMatrix_1 : decode (ab_bc mt_Likes_clearMatrix) 1 = .ok (.istore_n 1, 1) := by decide +kernel
theorem d_Likes_clearMatrix_2 : decode (ab_bc mt_Likes_clearMatrix) 2 = .ok (.iload_n 1, 1) := by decide +kernel
theorem d_Likes_clearMatrix_3 : decode (ab_bc mt_Likes_clearMatrix) 3 = .ok (.aload_n 0, 1) := by decide +kernel
theorem d_Likes_clearMatrix_4 : decode (ab_bc mt_Likes_clearMatrix) 4 = .ok (.getfield 18, 3) := by decide +kernel
theorem d_Likes_clearMatrix_7 : decode (ab_bc mt_Likes_clearMatrix) 7 = .ok (.arraylength, 1) := by decide +kernel
theorem d_Likes_clearMatrix_8 : decode (ab_bc mt_Likes_clearMatrix) 8 = .ok (.if_icmp .ge 16, 3) := by decide +kernel
theorem d_Likes_clearMatrix_11 : decode (ab_bc mt_Likes_clearMatrix) 11 = .ok (.aload_n 0, 1) := by decide +kernel
theorem d_Likes_clearMatrix_12 : decode (ab_bc mt_Likes_clearMatrix) 12 = .ok (.getfield 18, 3) := by decide +kernel
theorem d_Likes_clearMatrix_15 : decode (ab_bc mt_Likes_clearMatrix) 15 = .ok (.iload_n 1, 1) := by decide +kernel
theorem d_Likes_clearMatrix_16 : decode (ab_bc mt_Likes_clearMatrix) 16 = .ok (.lconst 0, 1) := by decide +kernel
theorem d_Likes_clearMatrix_17 : decode (ab_bc mt_Likes_clearMatrix) 17 = .ok (.lastore, 1) := by decide +kernel
theorem d_Likes_clearMatrix_18 : decode (ab_bc mt_Likes_clearMatrix) 18 = .ok (.iinc 1 1, 3) := by decide +kernel
theorem d_Likes_clearMatrix_21 : decode (ab_bc mt_Likes_clearMatrix) 21 = .ok (.goto (-19), 3) := by decide +kernel
theorem d_Likes_clearMatrix_24 : decode (ab_bc mt_Likes_clearMatrix) 24 = .ok (.return_, 1) := by decide +kernel
-- CableKeeper$Likes.clearMatrix()V over kx_likes
theorem q_Likes_clearMatrix_0 {w : ab_Wd} {d n nc ns : Nat} {I : Nat → Nat → Int32} {L : Nat → Nat → Int64} {res : ab_Re}  (hc : nc ≤ res.2.2.2.2.2.1) (hs : ns ≤ res.2.2.2.2.2.2)
    (h : ab_E w d mt_Likes_clearMatrix 2 [.ref kx_likes, .int 0] [] (I, L, ab_RR, n, nc, ns) res) : ab_E w d mt_Likes_clearMatrix 0 [.ref kx_likes, .null] [] (I, L, ab_RR, n, nc, ns) res := by
  refine ab_iconst (v := 0) d_Likes_clearMatrix_0 rfl ?_
  refine ab_istore_n (i := 1) d_Likes_clearMatrix_1 rfl (by decide) (Or.inr rfl) ?_
  exact h
theorem q_Likes_clearMatrix_2 {w : ab_Wd} {d n nc ns : Nat} {I : Nat → Nat → Int32} {L : Nat → Nat → Int64} {res : ab_Re} (v1 : Int32) (hc : nc ≤ res.2.2.2.2.2.1) (hs : ns ≤ res.2.2.2.2.2.2)
    (h : ((100 ≤ v1 → (res = (.inl none, (I, L, ab_RR, n, nc, ns)))) ∧ (¬ 100 ≤ v1 → ((vp_in v1 100) ∧ ab_E w d mt_Likes_clearMatrix 2 [.ref kx_likes, .int (v1 + 1)] [] (I, (ab_upL L kx_likes_matrix v1.toNatClampNeg 0), ab_RR, n, nc, ns) res)))) : ab_E w d mt_Likes_clearMatrix 2 [.ref kx_likes, .int v1] [] (I, L, ab_RR, n, nc, ns) res := by
  refine ab_iload_n (i := 1) d_Likes_clearMatrix_2 rfl rfl ?_
  refine ab_aload_n (i := 0) d_Likes_clearMatrix_3 rfl rfl ?_
  refine ab_getR (ci := 3) (k := 2) (j := kx_likes_matrix) d_Likes_clearMatrix_4 v_409 rfl (by decide) (by decide) rfl r_kx_likes_2 ?_
  refine ab_alen (v := 100) d_Likes_clearMatrix_7 (by decide) (by decide) rfl ?_
  refine ab_icmp_ge (tgt := 24) d_Likes_clearMatrix_8 (by decide) (fun c1 => ?_) (fun c1 => ?_)
  · have h := h.1 c1
    exact ab_vret d_Likes_clearMatrix_24 rfl h
  · have h := h.2 c1
    refine ab_aload_n (i := 0) d_Likes_clearMatrix_11 rfl rfl ?_
    refine ab_getR (ci := 3) (k := 2) (j := kx_likes_matrix) d_Likes_clearMatrix_12 v_409 rfl (by decide) (by decide) rfl r_kx_likes_2 ?_
    refine ab_iload_n (i := 1) d_Likes_clearMatrix_15 rfl rfl ?_
    refine ab_lconst (v := 0) d_Likes_clearMatrix_16 rfl ?_
    have g2 := h.1; have h := h.2
    refine ab_last d_Likes_clearMatrix_17 rfl rfl g2 ?_
    refine ab_iinc (i := 1) (v := (v1 + 1)) d_Likes_clearMatrix_18 rfl rfl (by decide) (Or.inr rfl) ?_
    refine ab_goto (tgt := 2) d_Likes_clearMatrix_21 (by decide) ?_
    exact h
