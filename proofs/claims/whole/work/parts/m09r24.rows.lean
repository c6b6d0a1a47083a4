theorem r_Roads_reachOver_0 {w : ab_Wd} {d n nc ns : Nat} {I : Nat → Nat → Int32} {L : Nat → Nat → Int64} {res : ab_Re} (hT : w.1.stackTraces = false) (v2 : Int32) (v3 : Int32) (hc : nc ≤ res.2.2.2.2.2.1) (hs : ns ≤ res.2.2.2.2.2.2)
    (h : (((((I kx_now_cables 2) >>> (v2 &&& 31)) &&& 1) = 1 → ((vp_in v2 24) ∧ ((¬ ((v3 >>> ((I kx_now_cables_first v2.toNatClampNeg) &&& 31)) &&& 1) = 1 → ((¬ ((v3 >>> ((I kx_now_cables_second v2.toNatClampNeg) &&& 31)) &&& 1) = 1 → (res = (.inl (some (.int v3)), (I, L, ab_RR, n, nc, ns)))) ∧ (((v3 >>> ((I kx_now_cables_second v2.toNatClampNeg) &&& 31)) &&& 1) = 1 → (((I kx_roads_flow v2.toNatClampNeg) ≤ (-1) → (res = (.inl (some (.int v3)), (I, L, ab_RR, n, nc, ns)))) ∧ (¬ (I kx_roads_flow v2.toNatClampNeg) ≤ (-1) → ((vp_in (I kx_now_cables_first v2.toNatClampNeg) 10) ∧ res = (.inl (some (.int (v3 ||| ((1 : Int32) <<< ((I kx_now_cables_first v2.toNatClampNeg) &&& 31))))), ((ab_up I kx_roads_reachedBy (I kx_now_cables_first v2.toNatClampNeg).toNatClampNeg v2), L, ab_RR, n, nc, ns)))))))) ∧ (((v3 >>> ((I kx_now_cables_first v2.toNatClampNeg) &&& 31)) &&& 1) = 1 → ((¬ ((v3 >>> ((I kx_now_cables_second v2.toNatClampNeg) &&& 31)) &&& 1) = 1 → ((1 ≤ (I kx_roads_flow v2.toNatClampNeg) → (res = (.inl (some (.int v3)), (I, L, ab_RR, n, nc, ns)))) ∧ (¬ 1 ≤ (I kx_roads_flow v2.toNatClampNeg) → ((vp_in (I kx_now_cables_second v2.toNatClampNeg) 10) ∧ res = (.inl (some (.int (v3 ||| ((1 : Int32) <<< ((I kx_now_cables_second v2.toNatClampNeg) &&& 31))))), ((ab_up I kx_roads_reachedBy (I kx_now_cables_second v2.toNatClampNeg).toNatClampNeg v2), L, ab_RR, n, nc, ns)))))) ∧ (((v3 >>> ((I kx_now_cables_second v2.toNatClampNeg) &&& 31)) &&& 1) = 1 → (res = (.inl (some (.int v3)), (I, L, ab_RR, n, nc, ns))))))))) ∧ (¬ (((I kx_now_cables 2) >>> (v2 &&& 31)) &&& 1) = 1 → (res = (.inl (some (.int v3)), (I, L, ab_RR, n, nc, ns)))))) : ab_E w (d + 1) mt_Roads_reachOver 0 [.ref kx_roads, .ref kx_now_cables, .int v2, .int v3, .null, .null, .null, .null] [] (I, L, ab_RR, n, nc, ns) res := by
  refine ab_aload_n (i := 1) d_Roads_reachOver_0 rfl rfl ?_
  refine ab_iload_n (i := 2) d_Roads_reachOver_1 rfl rfl ?_
  by_cases c2 : (((I kx_now_cables 2) >>> (v2 &&& 31)) &&& 1) = 1
  · have h := h.1 c2
    refine ab_callV (me2 := mt_Cables_isSound) (b := kx_now_cables) (as := [.int v2]) (st := []) (rv := (some (.int 1))) (M2 := (I, L, ab_RR, n, nc, ns)) d_Roads_reachOver_2 ce_Cables_isSound v_1039 v_540 v_541 (by decide) rfl (Nat.le_of_ble_eq_true rfl) (cx_Cables_isSound_0_1 v2 hT c2) (Nat.le_refl _) (Nat.le_refl _) hc hs (fun j h9 => by cases h9) (fun _ _ => rfl) ?_
    show ab_E w (d + 1) mt_Roads_reachOver 5 [.ref kx_roads, .ref kx_now_cables, .int v2, .int v3, .null, .null, .null, .null] [.int 1] (I, L, ab_RR, n, nc, ns) res
    refine ab_if_ne (tgt := 10) d_Roads_reachOver_5 (by decide) (fun _ => ?_) (fun c9 => absurd c9 (show ¬ (1 : Int32) = 0 from by decide))
    refine ab_aload_n (i := 1) d_Roads_reachOver_10 rfl rfl ?_
    refine ab_getR (ci := 1) (k := 3) (j := kx_now_cables_first) d_Roads_reachOver_11 v_208 rfl (by decide) (by decide) rfl r_kx_now_cables_3 ?_
    refine ab_iload_n (i := 2) d_Roads_reachOver_14 rfl rfl ?_
    have g3 := h.1; have h := h.2
    refine ab_iald d_Roads_reachOver_15 rfl rfl g3 ?_
    refine ab_istore (i := 4) d_Roads_reachOver_16 (by decide) (Or.inr rfl) ?_
    refine ab_aload_n (i := 1) d_Roads_reachOver_18 rfl rfl ?_
    refine ab_getR (ci := 1) (k := 4) (j := kx_now_cables_second) d_Roads_reachOver_19 v_215 rfl (by decide) (by decide) rfl r_kx_now_cables_4 ?_
    refine ab_iload_n (i := 2) d_Roads_reachOver_22 rfl rfl ?_
    refine ab_iald d_Roads_reachOver_23 rfl rfl g3 ?_
    refine ab_istore (i := 5) d_Roads_reachOver_24 (by decide) (Or.inr rfl) ?_
    refine ab_iload_n (i := 3) d_Roads_reachOver_26 rfl rfl ?_
    refine ab_iload (i := 4) d_Roads_reachOver_27 rfl ?_
    refine ab_ishr d_Roads_reachOver_29 ?_
    refine ab_iconst (v := 1) d_Roads_reachOver_30 rfl ?_
    refine ab_iand d_Roads_reachOver_31 ?_
    refine ab_iconst (v := 1) d_Roads_reachOver_32 rfl ?_
    refine ab_icmp_ne (tgt := 40) d_Roads_reachOver_33 (by decide) (fun c4 => ?_) (fun c4 => ?_)
    · have h := h.1 c4
      refine ab_iconst (v := 0) d_Roads_reachOver_40 rfl ?_
      refine ab_istore (i := 6) d_Roads_reachOver_41 (by decide) (Or.inr rfl) ?_
      refine ab_iload_n (i := 3) d_Roads_reachOver_43 rfl rfl ?_
      refine ab_iload (i := 5) d_Roads_reachOver_44 rfl ?_
      refine ab_ishr d_Roads_reachOver_46 ?_
      refine ab_iconst (v := 1) d_Roads_reachOver_47 rfl ?_
      refine ab_iand d_Roads_reachOver_48 ?_
      refine ab_iconst (v := 1) d_Roads_reachOver_49 rfl ?_
      refine ab_icmp_ne (tgt := 57) d_Roads_reachOver_50 (by decide) (fun c5 => ?_) (fun c5 => ?_)
      · have h := h.1 c5
        refine ab_iconst (v := 0) d_Roads_reachOver_57 rfl ?_
        refine ab_istore (i := 7) d_Roads_reachOver_58 (by decide) (Or.inr rfl) ?_
        refine ab_iload (i := 6) d_Roads_reachOver_60 rfl ?_
        refine ab_if_eq (tgt := 95) d_Roads_reachOver_62 (by decide) (fun _ => ?_) (fun c9 => absurd (show (0 : Int32) = 0 from by decide) c9)
        refine ab_iload (i := 7) d_Roads_reachOver_95 rfl ?_
        refine ab_if_eq (tgt := 130) d_Roads_reachOver_97 (by decide) (fun _ => ?_) (fun c9 => absurd (show (0 : Int32) = 0 from by decide) c9)
        refine ab_iload_n (i := 3) d_Roads_reachOver_130 rfl rfl ?_
        exact ab_iret (ty := .int) d_Roads_reachOver_131 rfl rfl h
      · have h := h.2 c5
        refine ab_iconst (v := 1) d_Roads_reachOver_53 rfl ?_
        refine ab_goto (tgt := 58) d_Roads_reachOver_54 (by decide) ?_
        refine ab_istore (i := 7) d_Roads_reachOver_58 (by decide) (Or.inr rfl) ?_
        refine ab_iload (i := 6) d_Roads_reachOver_60 rfl ?_
        refine ab_if_eq (tgt := 95) d_Roads_reachOver_62 (by decide) (fun _ => ?_) (fun c9 => absurd (show (0 : Int32) = 0 from by decide) c9)
        refine ab_iload (i := 7) d_Roads_reachOver_95 rfl ?_
        refine ab_if_eq (tgt := 130) d_Roads_reachOver_97 (by decide) (fun c9 => absurd c9 (show ¬ (1 : Int32) = 0 from by decide)) (fun _ => ?_)
        refine ab_iload (i := 6) d_Roads_reachOver_100 rfl ?_
        refine ab_if_ne (tgt := 130) d_Roads_reachOver_102 (by decide) (fun c9 => absurd (show (0 : Int32) = 0 from by decide) c9) (fun _ => ?_)
        refine ab_aload_n (i := 0) d_Roads_reachOver_105 rfl rfl ?_
        refine ab_getR (ci := 5) (k := 3) (j := kx_roads_flow) d_Roads_reachOver_106 v_388 rfl (by decide) (by decide) rfl r_kx_roads_3 ?_
        refine ab_iload_n (i := 2) d_Roads_reachOver_109 rfl rfl ?_
        refine ab_iald d_Roads_reachOver_110 rfl rfl g3 ?_
        refine ab_iconst (v := (-1)) d_Roads_reachOver_111 rfl ?_
        refine ab_icmp_le (tgt := 130) d_Roads_reachOver_112 (by decide) (fun c6 => ?_) (fun c6 => ?_)
        · have h := h.1 c6
          refine ab_iload_n (i := 3) d_Roads_reachOver_130 rfl rfl ?_
          exact ab_iret (ty := .int) d_Roads_reachOver_131 rfl rfl h
        · have h := h.2 c6
          refine ab_aload_n (i := 0) d_Roads_reachOver_115 rfl rfl ?_
          refine ab_getR (ci := 5) (k := 4) (j := kx_roads_reachedBy) d_Roads_reachOver_116 v_389 rfl (by decide) (by decide) rfl r_kx_roads_4 ?_
          refine ab_iload (i := 4) d_Roads_reachOver_119 rfl ?_
          refine ab_iload_n (i := 2) d_Roads_reachOver_121 rfl rfl ?_
          have g7 := h.1; have h := h.2
          refine ab_iast d_Roads_reachOver_122 rfl rfl g7 ?_
          refine ab_iload_n (i := 3) d_Roads_reachOver_123 rfl rfl ?_
          refine ab_iconst (v := 1) d_Roads_reachOver_124 rfl ?_
          refine ab_iload (i := 4) d_Roads_reachOver_125 rfl ?_
          refine ab_ishl d_Roads_reachOver_127 ?_
          refine ab_ior d_Roads_reachOver_128 ?_
          exact ab_iret (ty := .int) d_Roads_reachOver_129 rfl rfl h
    · have h := h.2 c4
      refine ab_iconst (v := 1) d_Roads_reachOver_36 rfl ?_
      refine ab_goto (tgt := 41) d_Roads_reachOver_37 (by decide) ?_
      refine ab_istore (i := 6) d_Roads_reachOver_41 (by decide) (Or.inr rfl) ?_
      refine ab_iload_n (i := 3) d_Roads_reachOver_43 rfl rfl ?_
      refine ab_iload (i := 5) d_Roads_reachOver_44 rfl ?_
      refine ab_ishr d_Roads_reachOver_46 ?_
      refine ab_iconst (v := 1) d_Roads_reachOver_47 rfl ?_
      refine ab_iand d_Roads_reachOver_48 ?_
      refine ab_iconst (v := 1) d_Roads_reachOver_49 rfl ?_
      refine ab_icmp_ne (tgt := 57) d_Roads_reachOver_50 (by decide) (fun c8 => ?_) (fun c8 => ?_)
      · have h := h.1 c8
        refine ab_iconst (v := 0) d_Roads_reachOver_57 rfl ?_
        refine ab_istore (i := 7) d_Roads_reachOver_58 (by decide) (Or.inr rfl) ?_
        refine ab_iload (i := 6) d_Roads_reachOver_60 rfl ?_
        refine ab_if_eq (tgt := 95) d_Roads_reachOver_62 (by decide) (fun c9 => absurd c9 (show ¬ (1 : Int32) = 0 from by decide)) (fun _ => ?_)
        refine ab_iload (i := 7) d_Roads_reachOver_65 rfl ?_
        refine ab_if_ne (tgt := 95) d_Roads_reachOver_67 (by decide) (fun c9 => absurd (show (0 : Int32) = 0 from by decide) c9) (fun _ => ?_)
        refine ab_aload_n (i := 0) d_Roads_reachOver_70 rfl rfl ?_
        refine ab_getR (ci := 5) (k := 3) (j := kx_roads_flow) d_Roads_reachOver_71 v_388 rfl (by decide) (by decide) rfl r_kx_roads_3 ?_
        refine ab_iload_n (i := 2) d_Roads_reachOver_74 rfl rfl ?_
        refine ab_iald d_Roads_reachOver_75 rfl rfl g3 ?_
        refine ab_iconst (v := 1) d_Roads_reachOver_76 rfl ?_
        refine ab_icmp_ge (tgt := 95) d_Roads_reachOver_77 (by decide) (fun c9 => ?_) (fun c9 => ?_)
        · have h := h.1 c9
          refine ab_iload (i := 7) d_Roads_reachOver_95 rfl ?_
          refine ab_if_eq (tgt := 130) d_Roads_reachOver_97 (by decide) (fun _ => ?_) (fun c9 => absurd (show (0 : Int32) = 0 from by decide) c9)
          refine ab_iload_n (i := 3) d_Roads_reachOver_130 rfl rfl ?_
          exact ab_iret (ty := .int) d_Roads_reachOver_131 rfl rfl h
        · have h := h.2 c9
          refine ab_aload_n (i := 0) d_Roads_reachOver_80 rfl rfl ?_
          refine ab_getR (ci := 5) (k := 4) (j := kx_roads_reachedBy) d_Roads_reachOver_81 v_389 rfl (by decide) (by decide) rfl r_kx_roads_4 ?_
          refine ab_iload (i := 5) d_Roads_reachOver_84 rfl ?_
          refine ab_iload_n (i := 2) d_Roads_reachOver_86 rfl rfl ?_
          have g10 := h.1; have h := h.2
          refine ab_iast d_Roads_reachOver_87 rfl rfl g10 ?_
          refine ab_iload_n (i := 3) d_Roads_reachOver_88 rfl rfl ?_
          refine ab_iconst (v := 1) d_Roads_reachOver_89 rfl ?_
          refine ab_iload (i := 5) d_Roads_reachOver_90 rfl ?_
          refine ab_ishl d_Roads_reachOver_92 ?_
          refine ab_ior d_Roads_reachOver_93 ?_
          exact ab_iret (ty := .int) d_Roads_reachOver_94 rfl rfl h
      · have h := h.2 c8
        refine ab_iconst (v := 1) d_Roads_reachOver_53 rfl ?_
        refine ab_goto (tgt := 58) d_Roads_reachOver_54 (by decide) ?_
        refine ab_istore (i := 7) d_Roads_reachOver_58 (by decide) (Or.inr rfl) ?_
        refine ab_iload (i := 6) d_Roads_reachOver_60 rfl ?_
        refine ab_if_eq (tgt := 95) d_Roads_reachOver_62 (by decide) (fun c9 => absurd c9 (show ¬ (1 : Int32) = 0 from by decide)) (fun _ => ?_)
        refine ab_iload (i := 7) d_Roads_reachOver_65 rfl ?_
        refine ab_if_ne (tgt := 95) d_Roads_reachOver_67 (by decide) (fun _ => ?_) (fun c9 => absurd c9 (show ¬ (1 : Int32) = 0 from by decide))
        refine ab_iload (i := 7) d_Roads_reachOver_95 rfl ?_
        refine ab_if_eq (tgt := 130) d_Roads_reachOver_97 (by decide) (fun c9 => absurd c9 (show ¬ (1 : Int32) = 0 from by decide)) (fun _ => ?_)
        refine ab_iload (i := 6) d_Roads_reachOver_100 rfl ?_
        refine ab_if_ne (tgt := 130) d_Roads_reachOver_102 (by decide) (fun _ => ?_) (fun c9 => absurd c9 (show ¬ (1 : Int32) = 0 from by decide))
        refine ab_iload_n (i := 3) d_Roads_reachOver_130 rfl rfl ?_
        exact ab_iret (ty := .int) d_Roads_reachOver_131 rfl rfl h
  · have h := h.2 c2
    refine ab_callV (me2 := mt_Cables_isSound) (b := kx_now_cables) (as := [.int v2]) (st := []) (rv := (some (.int 0))) (M2 := (I, L, ab_RR, n, nc, ns)) d_Roads_reachOver_2 ce_Cables_isSound v_1039 v_540 v_541 (by decide) rfl (Nat.le_of_ble_eq_true rfl) (cx_Cables_isSound_0_0 v2 hT c2) (Nat.le_refl _) (Nat.le_refl _) hc hs (fun j h9 => by cases h9) (fun _ _ => rfl) ?_
    show ab_E w (d + 1) mt_Roads_reachOver 5 [.ref kx_roads, .ref kx_now_cables, .int v2, .int v3, .null, .null, .null, .null] [.int 0] (I, L, ab_RR, n, nc, ns) res
    refine ab_if_ne (tgt := 10) d_Roads_reachOver_5 (by decide) (fun c9 => absurd (show (0 : Int32) = 0 from by decide) c9) (fun _ => ?_)
    refine ab_iload_n (i := 3) d_Roads_reachOver_8 rfl rfl ?_
    exact ab_iret (ty := .int) d_Roads_reachOver_9 rfl rfl h
theorem r_Likes_eliminate_0 {w : ab_Wd} {d n nc ns : Nat} {I : Nat → Nat → Int32} {L : Nat → Nat → Int64} {res : ab_Re} (hT : w.1.stackTraces = false) (v1 : Int32) (v2 : Int32) (v3 : Int64) (hc : nc ≤ res.2.2.2.2.2.1) (hs : ns ≤ res.2.2.2.2.2.2)
    (h : ((¬ (lg_cmp v3 0) = 0 → ((vp_in v1 10) ∧ ab_E w d mt_Likes_eliminate 20 [.ref kx_likes, .int v1, .int v2, .long v3, .null, .int (I kx_likes_rows v1.toNatClampNeg), .int (v1 + 1), .null, .null, .null, .null, .null, .null] [] (I, L, ab_RR, n, nc, ns) res)) ∧ ((lg_cmp v3 0) = 0 → (res = (.inl none, (I, L, ab_RR, n, nc, ns)))))) : ab_E w d mt_Likes_eliminate 0 [.ref kx_likes, .int v1, .int v2, .long v3, .null, .null, .null, .null, .null, .null, .null, .null, .null] [] (I, L, ab_RR, n, nc, ns) res := by
  refine ab_lload_n (i := 3) d_Likes_eliminate_0 rfl rfl ?_
  refine ab_lconst (v := 0) d_Likes_eliminate_1 rfl ?_
  refine ab_lcmp d_Likes_eliminate_2 ?_
  refine ab_if_ne (tgt := 7) d_Likes_eliminate_3 (by decide) (fun c1 => ?_) (fun c1 => ?_)
  · have h := h.1 c1
    refine ab_aload_n (i := 0) d_Likes_eliminate_7 rfl rfl ?_
    refine ab_getR (ci := 3) (k := 3) (j := kx_likes_rows) d_Likes_eliminate_8 v_410 rfl (by decide) (by decide) rfl r_kx_likes_3 ?_
    refine ab_iload_n (i := 1) d_Likes_eliminate_11 rfl rfl ?_
    have g2 := h.1; have h := h.2
    refine ab_iald d_Likes_eliminate_12 rfl rfl g2 ?_
    refine ab_istore (i := 5) d_Likes_eliminate_13 (by decide) (Or.inr rfl) ?_
    refine ab_iload_n (i := 1) d_Likes_eliminate_15 rfl rfl ?_
    refine ab_iconst (v := 1) d_Likes_eliminate_16 rfl ?_
    refine ab_iadd d_Likes_eliminate_17 ?_
    refine ab_istore (i := 6) d_Likes_eliminate_18 (by decide) (Or.inr rfl) ?_
    exact h
  · have h := h.2 c1
    exact ab_vret d_Likes_eliminate_6 rfl h
theorem r_Likes_eliminate_20 {w : ab_Wd} {d n nc ns : Nat} {I : Nat → Nat → Int32} {L : Nat → Nat → Int64} {res : ab_Re} (hT : w.1.stackTraces = false) (v1 : Int32) (v2 : Int32) (v3 : Int64) (v5 : Int32) (v6 : Int32) (hc : nc ≤ res.2.2.2.2.2.1) (hs : ns ≤ res.2.2.2.2.2.2)
    (h : ((v2 ≤ v6 → (res = (.inl none, (I, L, ab_RR, n, nc, ns)))) ∧ (¬ v2 ≤ v6 → ((vp_in v6 10) ∧ ab_E w d mt_Likes_eliminate 43 [.ref kx_likes, .int v1, .int v2, .long v3, .null, .int v5, .int v6, .int ((I kx_likes_rows v6.toNatClampNeg) * 10), .int (v1 + 1), .null, .null, .null, .null] [] (I, L, ab_RR, n, nc, ns) res)))) : ab_E w d mt_Likes_eliminate 20 [.ref kx_likes, .int v1, .int v2, .long v3, .null, .int v5, .int v6, .null, .null, .null, .null, .null, .null] [] (I, L, ab_RR, n, nc, ns) res := by
  refine ab_iload (i := 6) d_Likes_eliminate_20 rfl ?_
  refine ab_iload_n (i := 2) d_Likes_eliminate_22 rfl rfl ?_
  refine ab_icmp_ge (tgt := 145) d_Likes_eliminate_23 (by decide) (fun c1 => ?_) (fun c1 => ?_)
  · have h := h.1 c1
    exact ab_vret d_Likes_eliminate_145 rfl h
  · have h := h.2 c1
    refine ab_aload_n (i := 0) d_Likes_eliminate_26 rfl rfl ?_
    refine ab_getR (ci := 3) (k := 3) (j := kx_likes_rows) d_Likes_eliminate_27 v_410 rfl (by decide) (by decide) rfl r_kx_likes_3 ?_
    refine ab_iload (i := 6) d_Likes_eliminate_30 rfl ?_
    have g2 := h.1; have h := h.2
    refine ab_iald d_Likes_eliminate_32 rfl rfl g2 ?_
    refine ab_bipush (v := 10) d_Likes_eliminate_33 rfl ?_
    refine ab_imul d_Likes_eliminate_35 ?_
    refine ab_istore (i := 7) d_Likes_eliminate_36 (by decide) (Or.inr rfl) ?_
    refine ab_iload_n (i := 1) d_Likes_eliminate_38 rfl rfl ?_
    refine ab_iconst (v := 1) d_Likes_eliminate_39 rfl ?_
    refine ab_iadd d_Likes_eliminate_40 ?_
    refine ab_istore (i := 8) d_Likes_eliminate_41 (by decide) (Or.inr rfl) ?_
    exact h
theorem r_Likes_eliminate_43 {w : ab_Wd} {d n nc ns : Nat} {I : Nat → Nat → Int32} {L : Nat → Nat → Int64} {res : ab_Re} (hT : w.1.stackTraces = false) (v1 : Int32) (v2 : Int32) (v3 : Int64) (v5 : Int32) (v6 : Int32) (v7 : Int32) (v8 : Int32) (hc : nc ≤ res.2.2.2.2.2.1) (hs : ns ≤ res.2.2.2.2.2.2)
    (h : ((v2 ≤ v8 → (ab_E w d mt_Likes_eliminate 20 [.ref kx_likes, .int v1, .int v2, .long v3, .null, .int v5, .int (v6 + 1), .null, .null, .null, .null, .null, .null] [] (I, L, ab_RR, n, nc, ns) res)) ∧ (¬ v2 ≤ v8 → ((vp_in v8 10) ∧ (vp_in (v7 + (I kx_likes_rows v8.toNatClampNeg)) 100) ∧ (vp_in ((v5 * 10) + v5) 100) ∧ (vp_in (v7 + v5) 100) ∧ (vp_in ((v5 * 10) + (I kx_likes_rows v8.toNatClampNeg)) 100) ∧ (¬ v3 = 0) ∧ ab_E w d mt_Likes_eliminate 43 [.ref kx_likes, .int v1, .int v2, .long v3, .null, .int v5, .int v6, .int v7, .int (v8 + 1), .null, .null, .null, .null] [] (I, (ab_upL L kx_likes_matrix (v7 + (I kx_likes_rows v8.toNatClampNeg)).toNatClampNeg ((((L kx_likes_matrix (v7 + (I kx_likes_rows v8.toNatClampNeg)).toNatClampNeg) * (L kx_likes_matrix ((v5 * 10) + v5).toNatClampNeg)) - ((L kx_likes_matrix (v7 + v5).toNatClampNeg) * (L kx_likes_matrix ((v5 * 10) + (I kx_likes_rows v8.toNatClampNeg)).toNatClampNeg))) / v3)), ab_RR, n, nc, ns) res)))) : ab_E w d mt_Likes_eliminate 43 [.ref kx_likes, .int v1, .int v2, .long v3, .null, .int v5, .int v6, .int v7, .int v8, .null, .null, .null, .null] [] (I, L, ab_RR, n, nc, ns) res := by
  refine ab_iload (i := 8) d_Likes_eliminate_43 rfl ?_
  refine ab_iload_n (i := 2) d_Likes_eliminate_45 rfl rfl ?_
  refine ab_icmp_ge (tgt := 139) d_Likes_eliminate_46 (by decide) (fun c1 => ?_) (fun c1 => ?_)
  · have h := h.1 c1
    refine ab_iinc (i := 6) (v := (v6 + 1)) d_Likes_eliminate_139 rfl rfl (by decide) (Or.inr rfl) ?_
    refine ab_goto (tgt := 20) d_Likes_eliminate_142 (by decide) ?_
    refine ab_drop 7 ?_
    refine ab_drop 8 ?_
    exact h
  · have h := h.2 c1
    refine ab_aload_n (i := 0) d_Likes_eliminate_49 rfl rfl ?_
    refine ab_getR (ci := 3) (k := 2) (j := kx_likes_matrix) d_Likes_eliminate_50 v_409 rfl (by decide) (by decide) rfl r_kx_likes_2 ?_
    refine ab_iload (i := 7) d_Likes_eliminate_53 rfl ?_
    refine ab_aload_n (i := 0) d_Likes_eliminate_55 rfl rfl ?_
    refine ab_getR (ci := 3) (k := 3) (j := kx_likes_rows) d_Likes_eliminate_56 v_410 rfl (by decide) (by decide) rfl r_kx_likes_3 ?_
    refine ab_iload (i := 8) d_Likes_eliminate_59 rfl ?_
    have g2 := h.1; have h := h.2
    refine ab_iald d_Likes_eliminate_61 rfl rfl g2 ?_
    refine ab_iadd d_Likes_eliminate_62 ?_
    have g3 := h.1; have h := h.2
    refine ab_lald d_Likes_eliminate_63 rfl rfl g3 ?_
    refine ab_aload_n (i := 0) d_Likes_eliminate_64 rfl rfl ?_
    refine ab_getR (ci := 3) (k := 2) (j := kx_likes_matrix) d_Likes_eliminate_65 v_409 rfl (by decide) (by decide) rfl r_kx_likes_2 ?_
    refine ab_iload (i := 5) d_Likes_eliminate_68 rfl ?_
    refine ab_bipush (v := 10) d_Likes_eliminate_70 rfl ?_
    refine ab_imul d_Likes_eliminate_72 ?_
    refine ab_iload (i := 5) d_Likes_eliminate_73 rfl ?_
    refine ab_iadd d_Likes_eliminate_75 ?_
    have g4 := h.1; have h := h.2
    refine ab_lald d_Likes_eliminate_76 rfl rfl g4 ?_
    refine ab_lmul d_Likes_eliminate_77 ?_
    refine ab_lstore (i := 9) d_Likes_eliminate_78 (by decide) (Or.inr rfl) ?_
    refine ab_aload_n (i := 0) d_Likes_eliminate_80 rfl rfl ?_
    refine ab_getR (ci := 3) (k := 2) (j := kx_likes_matrix) d_Likes_eliminate_81 v_409 rfl (by decide) (by decide) rfl r_kx_likes_2 ?_
    refine ab_iload (i := 7) d_Likes_eliminate_84 rfl ?_
    refine ab_iload (i := 5) d_Likes_eliminate_86 rfl ?_
    refine ab_iadd d_Likes_eliminate_88 ?_
    have g5 := h.1; have h := h.2
    refine ab_lald d_Likes_eliminate_89 rfl rfl g5 ?_
    refine ab_aload_n (i := 0) d_Likes_eliminate_90 rfl rfl ?_
    refine ab_getR (ci := 3) (k := 2) (j := kx_likes_matrix) d_Likes_eliminate_91 v_409 rfl (by decide) (by decide) rfl r_kx_likes_2 ?_
    refine ab_iload (i := 5) d_Likes_eliminate_94 rfl ?_
    refine ab_bipush (v := 10) d_Likes_eliminate_96 rfl ?_
    refine ab_imul d_Likes_eliminate_98 ?_
    refine ab_aload_n (i := 0) d_Likes_eliminate_99 rfl rfl ?_
    refine ab_getR (ci := 3) (k := 3) (j := kx_likes_rows) d_Likes_eliminate_100 v_410 rfl (by decide) (by decide) rfl r_kx_likes_3 ?_
    refine ab_iload (i := 8) d_Likes_eliminate_103 rfl ?_
    refine ab_iald d_Likes_eliminate_105 rfl rfl g2 ?_
    refine ab_iadd d_Likes_eliminate_106 ?_
    have g6 := h.1; have h := h.2
    refine ab_lald d_Likes_eliminate_107 rfl rfl g6 ?_
    refine ab_lmul d_Likes_eliminate_108 ?_
    refine ab_lstore (i := 11) d_Likes_eliminate_109 (by decide) (Or.inr rfl) ?_
    refine ab_aload_n (i := 0) d_Likes_eliminate_111 rfl rfl ?_
    refine ab_getR (ci := 3) (k := 2) (j := kx_likes_matrix) d_Likes_eliminate_112 v_409 rfl (by decide) (by decide) rfl r_kx_likes_2 ?_
    refine ab_iload (i := 7) d_Likes_eliminate_115 rfl ?_
    refine ab_aload_n (i := 0) d_Likes_eliminate_117 rfl rfl ?_
    refine ab_getR (ci := 3) (k := 3) (j := kx_likes_rows) d_Likes_eliminate_118 v_410 rfl (by decide) (by decide) rfl r_kx_likes_3 ?_
    refine ab_iload (i := 8) d_Likes_eliminate_121 rfl ?_
    refine ab_iald d_Likes_eliminate_123 rfl rfl g2 ?_
    refine ab_iadd d_Likes_eliminate_124 ?_
    refine ab_lload (i := 9) d_Likes_eliminate_125 rfl ?_
    refine ab_lload (i := 11) d_Likes_eliminate_127 rfl ?_
    refine ab_lsub d_Likes_eliminate_129 ?_
    refine ab_lload_n (i := 3) d_Likes_eliminate_130 rfl rfl ?_
    have g7 := h.1; have h := h.2
    refine ab_ldiv d_Likes_eliminate_131 g7 ?_
    refine ab_last d_Likes_eliminate_132 rfl rfl g3 ?_
    refine ab_iinc (i := 8) (v := (v8 + 1)) d_Likes_eliminate_133 rfl rfl (by decide) (Or.inr rfl) ?_
    refine ab_goto (tgt := 43) d_Likes_eliminate_136 (by decide) ?_
    refine ab_drop 9 ?_
    refine ab_drop 11 ?_
    exact h
theorem r_K_unite_2_0 {w : ab_Wd} {d n nc ns : Nat} {I : Nat → Nat → Int32} {L : Nat → Nat → Int64} {res : ab_Re} (hT : w.1.stackTraces = false) (v1 : Int32) (v2 : Int32) (hc : nc ≤ res.2.2.2.2.2.1) (hs : ns ≤ res.2.2.2.2.2.2)
    (h : (vp_in v1 10) ∧ (vp_in v2 10) ∧ ((¬ (ab_min32 (I kx_likes_behind v1.toNatClampNeg) (I kx_likes_behind v2.toNatClampNeg)) = (ab_max32 (I kx_likes_behind v1.toNatClampNeg) (I kx_likes_behind v2.toNatClampNeg)) → (ab_E w (d + 1) mt_K_unite 33 [.ref kx_likes_behind, .int v1, .int v2, .int (ab_min32 (I kx_likes_behind v1.toNatClampNeg) (I kx_likes_behind v2.toNatClampNeg)), .int (ab_max32 (I kx_likes_behind v1.toNatClampNeg) (I kx_likes_behind v2.toNatClampNeg)), .int (ab_max32 (I kx_likes_behind v1.toNatClampNeg) (I kx_likes_behind v2.toNatClampNeg))] [] (I, L, ab_RR, n, nc, ns) res)) ∧ ((ab_min32 (I kx_likes_behind v1.toNatClampNeg) (I kx_likes_behind v2.toNatClampNeg)) = (ab_max32 (I kx_likes_behind v1.toNatClampNeg) (I kx_likes_behind v2.toNatClampNeg)) → (res = (.inl (some (.int 0)), (I, L, ab_RR, n, nc, ns)))))) : ab_E w (d + 1) mt_K_unite 0 [.ref kx_likes_behind, .int v1, .int v2, .null, .null, .null] [] (I, L, ab_RR, n, nc, ns) res := by
  refine ab_aload_n (i := 0) d_K_unite_0 rfl rfl ?_
  refine ab_iload_n (i := 1) d_K_unite_1 rfl rfl ?_
  have g1 := h.1; have h := h.2
  refine ab_iald d_K_unite_2 rfl rfl g1 ?_
  refine ab_aload_n (i := 0) d_K_unite_3 rfl rfl ?_
  refine ab_iload_n (i := 2) d_K_unite_4 rfl rfl ?_
  have g2 := h.1; have h := h.2
  refine ab_iald d_K_unite_5 rfl rfl g2 ?_
  refine ab_min d_K_unite_6 v_447 v_448 v_150 v_449 (Nat.succ_le_succ (Nat.zero_le _)) (Nat.le_of_ble_eq_true rfl) hc hs ?_
  refine ab_istore_n (i := 3) d_K_unite_9 rfl (by decide) (Or.inr rfl) ?_
  refine ab_aload_n (i := 0) d_K_unite_10 rfl rfl ?_
  refine ab_iload_n (i := 1) d_K_unite_11 rfl rfl ?_
  refine ab_iald d_K_unite_12 rfl rfl g1 ?_
  refine ab_aload_n (i := 0) d_K_unite_13 rfl rfl ?_
  refine ab_iload_n (i := 2) d_K_unite_14 rfl rfl ?_
  refine ab_iald d_K_unite_15 rfl rfl g2 ?_
  refine ab_max d_K_unite_16 v_450 v_451 v_150 v_452 (Nat.succ_le_succ (Nat.zero_le _)) (Nat.le_of_ble_eq_true rfl) hc hs ?_
  refine ab_istore (i := 4) d_K_unite_19 (by decide) (Or.inr rfl) ?_
  refine ab_iload_n (i := 3) d_K_unite_21 rfl rfl ?_
  refine ab_iload (i := 4) d_K_unite_22 rfl ?_
  refine ab_icmp_ne (tgt := 29) d_K_unite_24 (by decide) (fun c3 => ?_) (fun c3 => ?_)
  · have h := h.1 c3
    refine ab_iload (i := 4) d_K_unite_29 rfl ?_
    refine ab_istore (i := 5) d_K_unite_31 (by decide) (Or.inr rfl) ?_
    exact h
  · have h := h.2 c3
    refine ab_iconst (v := 0) d_K_unite_27 rfl ?_
    exact ab_iret (ty := .boolean) d_K_unite_28 rfl rfl h
theorem r_K_unite_2_33 {w : ab_Wd} {d n nc ns : Nat} {I : Nat → Nat → Int32} {L : Nat → Nat → Int64} {res : ab_Re} (hT : w.1.stackTraces = false) (v1 : Int32) (v2 : Int32) (v3 : Int32) (v4 : Int32) (v5 : Int32) (hc : nc ≤ res.2.2.2.2.2.1) (hs : ns ≤ res.2.2.2.2.2.2)
    (h : ((10 ≤ v5 → (res = (.inl (some (.int 1)), (I, L, ab_RR, n, nc, ns)))) ∧ (¬ 10 ≤ v5 → ((vp_in v5 10) ∧ ((¬ (I kx_likes_behind v5.toNatClampNeg) = v4 → (ab_E w (d + 1) mt_K_unite 33 [.ref kx_likes_behind, .int v1, .int v2, .int v3, .int v4, .int (v5 + 1)] [] (I, L, ab_RR, n, nc, ns) res)) ∧ ((I kx_likes_behind v5.toNatClampNeg) = v4 → (ab_E w (d + 1) mt_K_unite 33 [.ref kx_likes_behind, .int v1, .int v2, .int v3, .int v4, .int (v5 + 1)] [] ((ab_up I kx_likes_behind v5.toNatClampNeg v3), L, ab_RR, n, nc, ns) res))))))) : ab_E w (d + 1) mt_K_unite 33 [.ref kx_likes_behind, .int v1, .int v2, .int v3, .int v4, .int v5] [] (I, L, ab_RR, n, nc, ns) res := by
  refine ab_iload (i := 5) d_K_unite_33 rfl ?_
  refine ab_aload_n (i := 0) d_K_unite_35 rfl rfl ?_
  refine ab_alen (v := 10) d_K_unite_36 (by decide) (by decide) rfl ?_
  refine ab_icmp_ge (tgt := 60) d_K_unite_37 (by decide) (fun c1 => ?_) (fun c1 => ?_)
  · have h := h.1 c1
    refine ab_iconst (v := 1) d_K_unite_60 rfl ?_
    exact ab_iret (ty := .boolean) d_K_unite_61 rfl rfl h
  · have h := h.2 c1
    refine ab_aload_n (i := 0) d_K_unite_40 rfl rfl ?_
    refine ab_iload (i := 5) d_K_unite_41 rfl ?_
    have g2 := h.1; have h := h.2
    refine ab_iald d_K_unite_43 rfl rfl g2 ?_
    refine ab_iload (i := 4) d_K_unite_44 rfl ?_
    refine ab_icmp_ne (tgt := 54) d_K_unite_46 (by decide) (fun c3 => ?_) (fun c3 => ?_)
    · have h := h.1 c3
      refine ab_iinc (i := 5) (v := (v5 + 1)) d_K_unite_54 rfl rfl (by decide) (Or.inr rfl) ?_
      refine ab_goto (tgt := 33) d_K_unite_57 (by decide) ?_
      exact h
    · have h := h.2 c3
      refine ab_aload_n (i := 0) d_K_unite_49 rfl rfl ?_
      refine ab_iload (i := 5) d_K_unite_50 rfl ?_
      refine ab_iload_n (i := 3) d_K_unite_52 rfl rfl ?_
      refine ab_iast d_K_unite_53 rfl rfl g2 ?_
      refine ab_iinc (i := 5) (v := (v5 + 1)) d_K_unite_54 rfl rfl (by decide) (Or.inr rfl) ?_
      refine ab_goto (tgt := 33) d_K_unite_57 (by decide) ?_
      exact h
theorem r_Roads_nearest_0 {w : ab_Wd} {d n nc ns : Nat} {I : Nat → Nat → Int32} {L : Nat → Nat → Int64} {res : ab_Re} (hT : w.1.stackTraces = false) (v1 : Int32) (hc : nc ≤ res.2.2.2.2.2.1) (hs : ns ≤ res.2.2.2.2.2.2)
    (h : ab_E w d mt_Roads_nearest 4 [.ref kx_roads, .int v1, .int (-1), .int 0, .null] [] (I, L, ab_RR, n, nc, ns) res) : ab_E w d mt_Roads_nearest 0 [.ref kx_roads, .int v1, .null, .null, .null] [] (I, L, ab_RR, n, nc, ns) res := by
  refine ab_iconst (v := (-1)) d_Roads_nearest_0 rfl ?_
  refine ab_istore_n (i := 2) d_Roads_nearest_1 rfl (by decide) (Or.inr rfl) ?_
  refine ab_iconst (v := 0) d_Roads_nearest_2 rfl ?_
  refine ab_istore_n (i := 3) d_Roads_nearest_3 rfl (by decide) (Or.inr rfl) ?_
  exact h
theorem r_Roads_nearest_4 {w : ab_Wd} {d n nc ns : Nat} {I : Nat → Nat → Int32} {L : Nat → Nat → Int64} {res : ab_Re} (hT : w.1.stackTraces = false) (v1 : Int32) (v2 : Int32) (v3 : Int32) (hc : nc ≤ res.2.2.2.2.2.1) (hs : ns ≤ res.2.2.2.2.2.2)
    (h : (((I kx_roads 0) ≤ v3 → (res = (.inl (some (.int v2)), (I, L, ab_RR, n, nc, ns)))) ∧ (¬ (I kx_roads 0) ≤ v3 → ((v2 = (-1) → ((¬ ((v1 >>> (v3 &&& 31)) &&& 1) = 1 → (ab_E w d mt_Roads_nearest 4 [.ref kx_roads, .int v1, .int v2, .int (v3 + 1), .null] [] (I, L, ab_RR, n, nc, ns) res)) ∧ (((v1 >>> (v3 &&& 31)) &&& 1) = 1 → (ab_E w d mt_Roads_nearest 4 [.ref kx_roads, .int v1, .int v3, .int (v3 + 1), .null] [] (I, L, ab_RR, n, nc, ns) res)))) ∧ (¬ v2 = (-1) → ((vp_in v3 10) ∧ (vp_in v2 10) ∧ (((I kx_roads_near v2.toNatClampNeg) ≤ (I kx_roads_near v3.toNatClampNeg) → ((¬ ((v1 >>> (v3 &&& 31)) &&& 1) = 1 → (ab_E w d mt_Roads_nearest 4 [.ref kx_roads, .int v1, .int v2, .int (v3 + 1), .null] [] (I, L, ab_RR, n, nc, ns) res)) ∧ (((v1 >>> (v3 &&& 31)) &&& 1) = 1 → (ab_E w d mt_Roads_nearest 4 [.ref kx_roads, .int v1, .int v2, .int (v3 + 1), .null] [] (I, L, ab_RR, n, nc, ns) res)))) ∧ (¬ (I kx_roads_near v2.toNatClampNeg) ≤ (I kx_roads_near v3.toNatClampNeg) → ((¬ ((v1 >>> (v3 &&& 31)) &&& 1) = 1 → (ab_E w d mt_Roads_nearest 4 [.ref kx_roads, .int v1, .int v2, .int (v3 + 1), .null] [] (I, L, ab_RR, n, nc, ns) res)) ∧ (((v1 >>> (v3 &&& 31)) &&& 1) = 1 → (ab_E w d mt_Roads_nearest 4 [.ref kx_roads, .int v1, .int v3, .int (v3 + 1), .null] [] (I, L, ab_RR, n, nc, ns) res))))))))))) : ab_E w d mt_Roads_nearest 4 [.ref kx_roads, .int v1, .int v2, .int v3, .null] [] (I, L, ab_RR, n, nc, ns) res := by
  refine ab_iload_n (i := 3) d_Roads_nearest_4 rfl rfl ?_
  refine ab_aload_n (i := 0) d_Roads_nearest_5 rfl rfl ?_
  refine ab_getI (ci := 5) (k := 0) d_Roads_nearest_6 v_385 rfl (by decide) (by decide) rfl ?_
  refine ab_icmp_ge (tgt := 61) d_Roads_nearest_9 (by decide) (fun c1 => ?_) (fun c1 => ?_)
  · have h := h.1 c1
    refine ab_iload_n (i := 2) d_Roads_nearest_61 rfl rfl ?_
    exact ab_iret (ty := .int) d_Roads_nearest_62 rfl rfl h
  · have h := h.2 c1
    refine ab_iload_n (i := 2) d_Roads_nearest_12 rfl rfl ?_
    refine ab_iconst (v := (-1)) d_Roads_nearest_13 rfl ?_
    refine ab_icmp_eq (tgt := 32) d_Roads_nearest_14 (by decide) (fun c2 => ?_) (fun c2 => ?_)
    · have h := h.1 c2
      refine ab_iconst (v := 1) d_Roads_nearest_32 rfl ?_
      refine ab_goto (tgt := 37) d_Roads_nearest_33 (by decide) ?_
      refine ab_istore (i := 4) d_Roads_nearest_37 (by decide) (Or.inr rfl) ?_
      refine ab_iload_n (i := 1) d_Roads_nearest_39 rfl rfl ?_
      refine ab_iload_n (i := 3) d_Roads_nearest_40 rfl rfl ?_
      refine ab_ishr d_Roads_nearest_41 ?_
      refine ab_iconst (v := 1) d_Roads_nearest_42 rfl ?_
      refine ab_iand d_Roads_nearest_43 ?_
      refine ab_iconst (v := 1) d_Roads_nearest_44 rfl ?_
      refine ab_icmp_ne (tgt := 55) d_Roads_nearest_45 (by decide) (fun c3 => ?_) (fun c3 => ?_)
      · have h := h.1 c3
        refine ab_iinc (i := 3) (v := (v3 + 1)) d_Roads_nearest_55 rfl rfl (by decide) (Or.inr rfl) ?_
        refine ab_goto (tgt := 4) d_Roads_nearest_58 (by decide) ?_
        refine ab_drop 4 ?_
        exact h
      · have h := h.2 c3
        refine ab_iload (i := 4) d_Roads_nearest_48 rfl ?_
        refine ab_if_eq (tgt := 55) d_Roads_nearest_50 (by decide) (fun c9 => absurd c9 (show ¬ (1 : Int32) = 0 from by decide)) (fun _ => ?_)
        refine ab_iload_n (i := 3) d_Roads_nearest_53 rfl rfl ?_
        refine ab_istore_n (i := 2) d_Roads_nearest_54 rfl (by decide) (Or.inr rfl) ?_
        refine ab_iinc (i := 3) (v := (v3 + 1)) d_Roads_nearest_55 rfl rfl (by decide) (Or.inr rfl) ?_
        refine ab_goto (tgt := 4) d_Roads_nearest_58 (by decide) ?_
        refine ab_drop 4 ?_
        exact h
    · have h := h.2 c2
      refine ab_aload_n (i := 0) d_Roads_nearest_17 rfl rfl ?_
      refine ab_getR (ci := 5) (k := 2) (j := kx_roads_near) d_Roads_nearest_18 v_387 rfl (by decide) (by decide) rfl r_kx_roads_2 ?_
      refine ab_iload_n (i := 3) d_Roads_nearest_21 rfl rfl ?_
      have g4 := h.1; have h := h.2
      refine ab_iald d_Roads_nearest_22 rfl rfl g4 ?_
      refine ab_aload_n (i := 0) d_Roads_nearest_23 rfl rfl ?_
      refine ab_getR (ci := 5) (k := 2) (j := kx_roads_near) d_Roads_nearest_24 v_387 rfl (by decide) (by decide) rfl r_kx_roads_2 ?_
      refine ab_iload_n (i := 2) d_Roads_nearest_27 rfl rfl ?_
      have g5 := h.1; have h := h.2
      refine ab_iald d_Roads_nearest_28 rfl rfl g5 ?_
      refine ab_icmp_ge (tgt := 36) d_Roads_nearest_29 (by decide) (fun c6 => ?_) (fun c6 => ?_)
      · have h := h.1 c6
        refine ab_iconst (v := 0) d_Roads_nearest_36 rfl ?_
        refine ab_istore (i := 4) d_Roads_nearest_37 (by decide) (Or.inr rfl) ?_
        refine ab_iload_n (i := 1) d_Roads_nearest_39 rfl rfl ?_
        refine ab_iload_n (i := 3) d_Roads_nearest_40 rfl rfl ?_
        refine ab_ishr d_Roads_nearest_41 ?_
        refine ab_iconst (v := 1) d_Roads_nearest_42 rfl ?_
        refine ab_iand d_Roads_nearest_43 ?_
        refine ab_iconst (v := 1) d_Roads_nearest_44 rfl ?_
        refine ab_icmp_ne (tgt := 55) d_Roads_nearest_45 (by decide) (fun c7 => ?_) (fun c7 => ?_)
        · have h := h.1 c7
          refine ab_iinc (i := 3) (v := (v3 + 1)) d_Roads_nearest_55 rfl rfl (by decide) (Or.inr rfl) ?_
          refine ab_goto (tgt := 4) d_Roads_nearest_58 (by decide) ?_
          refine ab_drop 4 ?_
          exact h
        · have h := h.2 c7
          refine ab_iload (i := 4) d_Roads_nearest_48 rfl ?_
          refine ab_if_eq (tgt := 55) d_Roads_nearest_50 (by decide) (fun _ => ?_) (fun c9 => absurd (show (0 : Int32) = 0 from by decide) c9)
          refine ab_iinc (i := 3) (v := (v3 + 1)) d_Roads_nearest_55 rfl rfl (by decide) (Or.inr rfl) ?_
          refine ab_goto (tgt := 4) d_Roads_nearest_58 (by decide) ?_
          refine ab_drop 4 ?_
          exact h
      · have h := h.2 c6
        refine ab_iconst (v := 1) d_Roads_nearest_32 rfl ?_
        refine ab_goto (tgt := 37) d_Roads_nearest_33 (by decide) ?_
        refine ab_istore (i := 4) d_Roads_nearest_37 (by decide) (Or.inr rfl) ?_
        refine ab_iload_n (i := 1) d_Roads_nearest_39 rfl rfl ?_
        refine ab_iload_n (i := 3) d_Roads_nearest_40 rfl rfl ?_
        refine ab_ishr d_Roads_nearest_41 ?_
        refine ab_iconst (v := 1) d_Roads_nearest_42 rfl ?_
        refine ab_iand d_Roads_nearest_43 ?_
        refine ab_iconst (v := 1) d_Roads_nearest_44 rfl ?_
        refine ab_icmp_ne (tgt := 55) d_Roads_nearest_45 (by decide) (fun c8 => ?_) (fun c8 => ?_)
        · have h := h.1 c8
          refine ab_iinc (i := 3) (v := (v3 + 1)) d_Roads_nearest_55 rfl rfl (by decide) (Or.inr rfl) ?_
          refine ab_goto (tgt := 4) d_Roads_nearest_58 (by decide) ?_
          refine ab_drop 4 ?_
          exact h
        · have h := h.2 c8
          refine ab_iload (i := 4) d_Roads_nearest_48 rfl ?_
          refine ab_if_eq (tgt := 55) d_Roads_nearest_50 (by decide) (fun c9 => absurd c9 (show ¬ (1 : Int32) = 0 from by decide)) (fun _ => ?_)
          refine ab_iload_n (i := 3) d_Roads_nearest_53 rfl rfl ?_
          refine ab_istore_n (i := 2) d_Roads_nearest_54 rfl (by decide) (Or.inr rfl) ?_
          refine ab_iinc (i := 3) (v := (v3 + 1)) d_Roads_nearest_55 rfl rfl (by decide) (Or.inr rfl) ?_
          refine ab_goto (tgt := 4) d_Roads_nearest_58 (by decide) ?_
          refine ab_drop 4 ?_
          exact h
theorem r_Ways_joinedWith_0 {w : ab_Wd} {d n nc ns : Nat} {I : Nat → Nat → Int32} {L : Nat → Nat → Int64} {res : ab_Re} (hT : w.1.stackTraces = false) (v1 : Int32) (hc : nc ≤ res.2.2.2.2.2.1) (hs : ns ≤ res.2.2.2.2.2.2)
    (h : ab_E w (d + 1) mt_Ways_joinedWith 4 [.ref kx_ways, .int v1, .int 0, .int 0] [] (I, L, ab_RR, n, nc, ns) res) : ab_E w (d + 1) mt_Ways_joinedWith 0 [.ref kx_ways, .int v1, .null, .null] [] (I, L, ab_RR, n, nc, ns) res := by
  refine ab_iconst (v := 0) d_Ways_joinedWith_0 rfl ?_
  refine ab_istore_n (i := 2) d_Ways_joinedWith_1 rfl (by decide) (Or.inr rfl) ?_
  refine ab_iconst (v := 0) d_Ways_joinedWith_2 rfl ?_
  refine ab_istore_n (i := 3) d_Ways_joinedWith_3 rfl (by decide) (Or.inr rfl) ?_
  exact h
theorem r_Ways_joinedWith_4 {w : ab_Wd} {d n nc ns : Nat} {I : Nat → Nat → Int32} {L : Nat → Nat → Int64} {res : ab_Re} (hT : w.1.stackTraces = false) (v1 : Int32) (v2 : Int32) (v3 : Int32) (hc : nc ≤ res.2.2.2.2.2.1) (hs : ns ≤ res.2.2.2.2.2.2)
    (h : (((I kx_ways 0) ≤ v3 → (res = (.inl (some (.int v2)), (I, L, ab_RR, n, nc, ns)))) ∧ (¬ (I kx_ways 0) ≤ v3 → ((vp_in ((v1 * 10) + v3) 100) ∧ (((I kx_ways_span ((v1 * 10) + v3).toNatClampNeg) = (-1) → (ab_E w (d + 1) mt_Ways_joinedWith 4 [.ref kx_ways, .int v1, .int v2, .int (v3 + 1)] [] (I, L, ab_RR, n, nc, ns) res)) ∧ (¬ (I kx_ways_span ((v1 * 10) + v3).toNatClampNeg) = (-1) → (ab_E w (d + 1) mt_Ways_joinedWith 4 [.ref kx_ways, .int v1, .int (v2 ||| ((1 : Int32) <<< (v3 &&& 31))), .int (v3 + 1)] [] (I, L, ab_RR, n, nc, ns) res))))))) : ab_E w (d + 1) mt_Ways_joinedWith 4 [.ref kx_ways, .int v1, .int v2, .int v3] [] (I, L, ab_RR, n, nc, ns) res := by
  refine ab_iload_n (i := 3) d_Ways_joinedWith_4 rfl rfl ?_
  refine ab_aload_n (i := 0) d_Ways_joinedWith_5 rfl rfl ?_
  refine ab_getI (ci := 9) (k := 0) d_Ways_joinedWith_6 v_361 rfl (by decide) (by decide) rfl ?_
  refine ab_icmp_ge (tgt := 38) d_Ways_joinedWith_9 (by decide) (fun c1 => ?_) (fun c1 => ?_)
  · have h := h.1 c1
    refine ab_iload_n (i := 2) d_Ways_joinedWith_38 rfl rfl ?_
    exact ab_iret (ty := .int) d_Ways_joinedWith_39 rfl rfl h
  · have h := h.2 c1
    refine ab_aload_n (i := 0) d_Ways_joinedWith_12 rfl rfl ?_
    refine ab_getR (ci := 9) (k := 1) (j := kx_ways_span) d_Ways_joinedWith_13 v_362 rfl (by decide) (by decide) rfl r_kx_ways_1 ?_
    refine ab_iload_n (i := 1) d_Ways_joinedWith_16 rfl rfl ?_
    refine ab_iload_n (i := 3) d_Ways_joinedWith_17 rfl rfl ?_
    refine ab_callS (me2 := mt_Ways_at) (as := [.int v1, .int v3]) (st := [.ref kx_ways_span]) (rv := (some (.int ((v1 * 10) + v3)))) (M2 := (I, L, ab_RR, n, nc, ns)) d_Ways_joinedWith_18 ce_Ways_at ⟨v_458, Or.inl v_457⟩ (Nat.le_of_ble_eq_true rfl) (cx_Ways_at_0 v1 v3 hT) (Nat.le_refl _) (Nat.le_refl _) hc hs (fun j h9 => by cases h9) (fun _ _ => rfl) ?_
    show ab_E w (d + 1) mt_Ways_joinedWith 21 [.ref kx_ways, .int v1, .int v2, .int v3] [.int ((v1 * 10) + v3), .ref kx_ways_span] (I, L, ab_RR, n, nc, ns) res
    have g3 := h.1; have h := h.2
    refine ab_iald d_Ways_joinedWith_21 rfl rfl g3 ?_
    refine ab_iconst (v := (-1)) d_Ways_joinedWith_22 rfl ?_
    refine ab_icmp_eq (tgt := 32) d_Ways_joinedWith_23 (by decide) (fun c4 => ?_) (fun c4 => ?_)
    · have h := h.1 c4
      refine ab_iinc (i := 3) (v := (v3 + 1)) d_Ways_joinedWith_32 rfl rfl (by decide) (Or.inr rfl) ?_
      refine ab_goto (tgt := 4) d_Ways_joinedWith_35 (by decide) ?_
      exact h
    · have h := h.2 c4
      refine ab_iload_n (i := 2) d_Ways_joinedWith_26 rfl rfl ?_
      refine ab_iconst (v := 1) d_Ways_joinedWith_27 rfl ?_
      refine ab_iload_n (i := 3) d_Ways_joinedWith_28 rfl rfl ?_
      refine ab_ishl d_Ways_joinedWith_29 ?_
      refine ab_ior d_Ways_joinedWith_30 ?_
      refine ab_istore_n (i := 2) d_Ways_joinedWith_31 rfl (by decide) (Or.inr rfl) ?_
      refine ab_iinc (i := 3) (v := (v3 + 1)) d_Ways_joinedWith_32 rfl rfl (by decide) (Or.inr rfl) ?_
      refine ab_goto (tgt := 4) d_Ways_joinedWith_35 (by decide) ?_
      exact h
theorem r_Ways_link_0 {w : ab_Wd} {d n nc ns : Nat} {I : Nat → Nat → Int32} {L : Nat → Nat → Int64} {res : ab_Re} (hT : w.1.stackTraces = false) (v2 : Int32) (v3 : Int32) (v4 : Int32) (hc : nc ≤ res.2.2.2.2.2.1) (hs : ns ≤ res.2.2.2.2.2.2)
    (h : (vp_in v2 24) ∧ (vp_in ((v3 * 10) + (I kx_now_cables_first v2.toNatClampNeg)) 100) ∧ (vp_in (((I kx_now_cables_second v2.toNatClampNeg) * 10) + v4) 100) ∧ (vp_in ((v3 * 10) + v4) 100) ∧ (vp_in ((v4 * 10) + v3) 100) ∧ ((¬ v3 = (I kx_now_cables_first v2.toNatClampNeg) → ((¬ v4 = (I kx_now_cables_second v2.toNatClampNeg) → ((vp_in ((v4 * 10) + (I kx_now_cables_second v2.toNatClampNeg)) 100) ∧ res = (.inl none, ((ab_up (ab_up (ab_up (ab_up (ab_up (ab_up (ab_up (ab_up I kx_ways_span ((v3 * 10) + v4).toNatClampNeg (((I kx_ways_span ((v3 * 10) + (I kx_now_cables_first v2.toNatClampNeg)).toNatClampNeg) + (I kx_now_cables_price v2.toNatClampNeg)) + (I kx_ways_span (((I kx_now_cables_second v2.toNatClampNeg) * 10) + v4).toNatClampNeg))) kx_ways_span ((v4 * 10) + v3).toNatClampNeg ((ab_up I kx_ways_span ((v3 * 10) + v4).toNatClampNeg (((I kx_ways_span ((v3 * 10) + (I kx_now_cables_first v2.toNatClampNeg)).toNatClampNeg) + (I kx_now_cables_price v2.toNatClampNeg)) + (I kx_ways_span (((I kx_now_cables_second v2.toNatClampNeg) * 10) + v4).toNatClampNeg))) kx_ways_span ((v3 * 10) + v4).toNatClampNeg)) kx_ways_hops ((v3 * 10) + v4).toNatClampNeg (((I kx_ways_hops ((v3 * 10) + (I kx_now_cables_first v2.toNatClampNeg)).toNatClampNeg) + 1) + (I kx_ways_hops (((I kx_now_cables_second v2.toNatClampNeg) * 10) + v4).toNatClampNeg))) kx_ways_hops ((v4 * 10) + v3).toNatClampNeg ((ab_up (ab_up (ab_up I kx_ways_span ((v3 * 10) + v4).toNatClampNeg (((I kx_ways_span ((v3 * 10) + (I kx_now_cables_first v2.toNatClampNeg)).toNatClampNeg) + (I kx_now_cables_price v2.toNatClampNeg)) + (I kx_ways_span (((I kx_now_cables_second v2.toNatClampNeg) * 10) + v4).toNatClampNeg))) kx_ways_span ((v4 * 10) + v3).toNatClampNeg ((ab_up I kx_ways_span ((v3 * 10) + v4).toNatClampNeg (((I kx_ways_span ((v3 * 10) + (I kx_now_cables_first v2.toNatClampNeg)).toNatClampNeg) + (I kx_now_cables_price v2.toNatClampNeg)) + (I kx_ways_span (((I kx_now_cables_second v2.toNatClampNeg) * 10) + v4).toNatClampNeg))) kx_ways_span ((v3 * 10) + v4).toNatClampNeg)) kx_ways_hops ((v3 * 10) + v4).toNatClampNeg (((I kx_ways_hops ((v3 * 10) + (I kx_now_cables_first v2.toNatClampNeg)).toNatClampNeg) + 1) + (I kx_ways_hops (((I kx_now_cables_second v2.toNatClampNeg) * 10) + v4).toNatClampNeg))) kx_ways_hops ((v3 * 10) + v4).toNatClampNeg)) kx_ways_step ((v3 * 10) + v4).toNatClampNeg (I kx_ways_step ((v3 * 10) + (I kx_now_cables_first v2.toNatClampNeg)).toNatClampNeg)) kx_ways_step ((v4 * 10) + v3).toNatClampNeg ((ab_up (ab_up (ab_up (ab_up (ab_up I kx_ways_span ((v3 * 10) + v4).toNatClampNeg (((I kx_ways_span ((v3 * 10) + (I kx_now_cables_first v2.toNatClampNeg)).toNatClampNeg) + (I kx_now_cables_price v2.toNatClampNeg)) + (I kx_ways_span (((I kx_now_cables_second v2.toNatClampNeg) * 10) + v4).toNatClampNeg))) kx_ways_span ((v4 * 10) + v3).toNatClampNeg ((ab_up I kx_ways_span ((v3 * 10) + v4).toNatClampNeg (((I kx_ways_span ((v3 * 10) + (I kx_now_cables_first v2.toNatClampNeg)).toNatClampNeg) + (I kx_now_cables_price v2.toNatClampNeg)) + (I kx_ways_span (((I kx_now_cables_second v2.toNatClampNeg) * 10) + v4).toNatClampNeg))) kx_ways_span ((v3 * 10) + v4).toNatClampNeg)) kx_ways_hops ((v3 * 10) + v4).toNatClampNeg (((I kx_ways_hops ((v3 * 10) + (I kx_now_cables_first v2.toNatClampNeg)).toNatClampNeg) + 1) + (I kx_ways_hops (((I kx_now_cables_second v2.toNatClampNeg) * 10) + v4).toNatClampNeg))) kx_ways_hops ((v4 * 10) + v3).toNatClampNeg ((ab_up (ab_up (ab_up I kx_ways_span ((v3 * 10) + v4).toNatClampNeg (((I kx_ways_span ((v3 * 10) + (I kx_now_cables_first v2.toNatClampNeg)).toNatClampNeg) + (I kx_now_cables_price v2.toNatClampNeg)) + (I kx_ways_span (((I kx_now_cables_second v2.toNatClampNeg) * 10) + v4).toNatClampNeg))) kx_ways_span ((v4 * 10) + v3).toNatClampNeg ((ab_up I kx_ways_span ((v3 * 10) + v4).toNatClampNeg (((I kx_ways_span ((v3 * 10) + (I kx_now_cables_first v2.toNatClampNeg)).toNatClampNeg) + (I kx_now_cables_price v2.toNatClampNeg)) + (I kx_ways_span (((I kx_now_cables_second v2.toNatClampNeg) * 10) + v4).toNatClampNeg))) kx_ways_span ((v3 * 10) + v4).toNatClampNeg)) kx_ways_hops ((v3 * 10) + v4).toNatClampNeg (((I kx_ways_hops ((v3 * 10) + (I kx_now_cables_first v2.toNatClampNeg)).toNatClampNeg) + 1) + (I kx_ways_hops (((I kx_now_cables_second v2.toNatClampNeg) * 10) + v4).toNatClampNeg))) kx_ways_hops ((v3 * 10) + v4).toNatClampNeg)) kx_ways_step ((v3 * 10) + v4).toNatClampNeg (I kx_ways_step ((v3 * 10) + (I kx_now_cables_first v2.toNatClampNeg)).toNatClampNeg)) kx_ways_step ((v4 * 10) + (I kx_now_cables_second v2.toNatClampNeg)).toNatClampNeg)) kx_ways_dearest ((v3 * 10) + v4).toNatClampNeg v2) kx_ways_dearest ((v4 * 10) + v3).toNatClampNeg v2), L, ab_RR, n, nc, ns)))) ∧ (v4 = (I kx_now_cables_second v2.toNatClampNeg) → (res = (.inl none, ((ab_up (ab_up (ab_up (ab_up (ab_up (ab_up (ab_up (ab_up I kx_ways_span ((v3 * 10) + v4).toNatClampNeg (((I kx_ways_span ((v3 * 10) + (I kx_now_cables_first v2.toNatClampNeg)).toNatClampNeg) + (I kx_now_cables_price v2.toNatClampNeg)) + (I kx_ways_span (((I kx_now_cables_second v2.toNatClampNeg) * 10) + v4).toNatClampNeg))) kx_ways_span ((v4 * 10) + v3).toNatClampNeg ((ab_up I kx_ways_span ((v3 * 10) + v4).toNatClampNeg (((I kx_ways_span ((v3 * 10) + (I kx_now_cables_first v2.toNatClampNeg)).toNatClampNeg) + (I kx_now_cables_price v2.toNatClampNeg)) + (I kx_ways_span (((I kx_now_cables_second v2.toNatClampNeg) * 10) + v4).toNatClampNeg))) kx_ways_span ((v3 * 10) + v4).toNatClampNeg)) kx_ways_hops ((v3 * 10) + v4).toNatClampNeg (((I kx_ways_hops ((v3 * 10) + (I kx_now_cables_first v2.toNatClampNeg)).toNatClampNeg) + 1) + (I kx_ways_hops (((I kx_now_cables_second v2.toNatClampNeg) * 10) + v4).toNatClampNeg))) kx_ways_hops ((v4 * 10) + v3).toNatClampNeg ((ab_up (ab_up (ab_up I kx_ways_span ((v3 * 10) + v4).toNatClampNeg (((I kx_ways_span ((v3 * 10) + (I kx_now_cables_first v2.toNatClampNeg)).toNatClampNeg) + (I kx_now_cables_price v2.toNatClampNeg)) + (I kx_ways_span (((I kx_now_cables_second v2.toNatClampNeg) * 10) + v4).toNatClampNeg))) kx_ways_span ((v4 * 10) + v3).toNatClampNeg ((ab_up I kx_ways_span ((v3 * 10) + v4).toNatClampNeg (((I kx_ways_span ((v3 * 10) + (I kx_now_cables_first v2.toNatClampNeg)).toNatClampNeg) + (I kx_now_cables_price v2.toNatClampNeg)) + (I kx_ways_span (((I kx_now_cables_second v2.toNatClampNeg) * 10) + v4).toNatClampNeg))) kx_ways_span ((v3 * 10) + v4).toNatClampNeg)) kx_ways_hops ((v3 * 10) + v4).toNatClampNeg (((I kx_ways_hops ((v3 * 10) + (I kx_now_cables_first v2.toNatClampNeg)).toNatClampNeg) + 1) + (I kx_ways_hops (((I kx_now_cables_second v2.toNatClampNeg) * 10) + v4).toNatClampNeg))) kx_ways_hops ((v3 * 10) + v4).toNatClampNeg)) kx_ways_step ((v3 * 10) + v4).toNatClampNeg (I kx_ways_step ((v3 * 10) + (I kx_now_cables_first v2.toNatClampNeg)).toNatClampNeg)) kx_ways_step ((v4 * 10) + v3).toNatClampNeg v2) kx_ways_dearest ((v3 * 10) + v4).toNatClampNeg v2) kx_ways_dearest ((v4 * 10) + v3).toNatClampNeg v2), L, ab_RR, n, nc, ns)))))) ∧ (v3 = (I kx_now_cables_first v2.toNatClampNeg) → ((¬ v4 = (I kx_now_cables_second v2.toNatClampNeg) → ((vp_in ((v4 * 10) + (I kx_now_cables_second v2.toNatClampNeg)) 100) ∧ res = (.inl none, ((ab_up (ab_up (ab_up (ab_up (ab_up (ab_up (ab_up (ab_up I kx_ways_span ((v3 * 10) + v4).toNatClampNeg (((I kx_ways_span ((v3 * 10) + (I kx_now_cables_first v2.toNatClampNeg)).toNatClampNeg) + (I kx_now_cables_price v2.toNatClampNeg)) + (I kx_ways_span (((I kx_now_cables_second v2.toNatClampNeg) * 10) + v4).toNatClampNeg))) kx_ways_span ((v4 * 10) + v3).toNatClampNeg ((ab_up I kx_ways_span ((v3 * 10) + v4).toNatClampNeg (((I kx_ways_span ((v3 * 10) + (I kx_now_cables_first v2.toNatClampNeg)).toNatClampNeg) + (I kx_now_cables_price v2.toNatClampNeg)) + (I kx_ways_span (((I kx_now_cables_second v2.toNatClampNeg) * 10) + v4).toNatClampNeg))) kx_ways_span ((v3 * 10) + v4).toNatClampNeg)) kx_ways_hops ((v3 * 10) + v4).toNatClampNeg (((I kx_ways_hops ((v3 * 10) + (I kx_now_cables_first v2.toNatClampNeg)).toNatClampNeg) + 1) + (I kx_ways_hops (((I kx_now_cables_second v2.toNatClampNeg) * 10) + v4).toNatClampNeg))) kx_ways_hops ((v4 * 10) + v3).toNatClampNeg ((ab_up (ab_up (ab_up I kx_ways_span ((v3 * 10) + v4).toNatClampNeg (((I kx_ways_span ((v3 * 10) + (I kx_now_cables_first v2.toNatClampNeg)).toNatClampNeg) + (I kx_now_cables_price v2.toNatClampNeg)) + (I kx_ways_span (((I kx_now_cables_second v2.toNatClampNeg) * 10) + v4).toNatClampNeg))) kx_ways_span ((v4 * 10) + v3).toNatClampNeg ((ab_up I kx_ways_span ((v3 * 10) + v4).toNatClampNeg (((I kx_ways_span ((v3 * 10) + (I kx_now_cables_first v2.toNatClampNeg)).toNatClampNeg) + (I kx_now_cables_price v2.toNatClampNeg)) + (I kx_ways_span (((I kx_now_cables_second v2.toNatClampNeg) * 10) + v4).toNatClampNeg))) kx_ways_span ((v3 * 10) + v4).toNatClampNeg)) kx_ways_hops ((v3 * 10) + v4).toNatClampNeg (((I kx_ways_hops ((v3 * 10) + (I kx_now_cables_first v2.toNatClampNeg)).toNatClampNeg) + 1) + (I kx_ways_hops (((I kx_now_cables_second v2.toNatClampNeg) * 10) + v4).toNatClampNeg))) kx_ways_hops ((v3 * 10) + v4).toNatClampNeg)) kx_ways_step ((v3 * 10) + v4).toNatClampNeg v2) kx_ways_step ((v4 * 10) + v3).toNatClampNeg ((ab_up (ab_up (ab_up (ab_up (ab_up I kx_ways_span ((v3 * 10) + v4).toNatClampNeg (((I kx_ways_span ((v3 * 10) + (I kx_now_cables_first v2.toNatClampNeg)).toNatClampNeg) + (I kx_now_cables_price v2.toNatClampNeg)) + (I kx_ways_span (((I kx_now_cables_second v2.toNatClampNeg) * 10) + v4).toNatClampNeg))) kx_ways_span ((v4 * 10) + v3).toNatClampNeg ((ab_up I kx_ways_span ((v3 * 10) + v4).toNatClampNeg (((I kx_ways_span ((v3 * 10) + (I kx_now_cables_first v2.toNatClampNeg)).toNatClampNeg) + (I kx_now_cables_price v2.toNatClampNeg)) + (I kx_ways_span (((I kx_now_cables_second v2.toNatClampNeg) * 10) + v4).toNatClampNeg))) kx_ways_span ((v3 * 10) + v4).toNatClampNeg)) kx_ways_hops ((v3 * 10) + v4).toNatClampNeg (((I kx_ways_hops ((v3 * 10) + (I kx_now_cables_first v2.toNatClampNeg)).toNatClampNeg) + 1) + (I kx_ways_hops (((I kx_now_cables_second v2.toNatClampNeg) * 10) + v4).toNatClampNeg))) kx_ways_hops ((v4 * 10) + v3).toNatClampNeg ((ab_up (ab_up (ab_up I kx_ways_span ((v3 * 10) + v4).toNatClampNeg (((I kx_ways_span ((v3 * 10) + (I kx_now_cables_first v2.toNatClampNeg)).toNatClampNeg) + (I kx_now_cables_price v2.toNatClampNeg)) + (I kx_ways_span (((I kx_now_cables_second v2.toNatClampNeg) * 10) + v4).toNatClampNeg))) kx_ways_span ((v4 * 10) + v3).toNatClampNeg ((ab_up I kx_ways_span ((v3 * 10) + v4).toNatClampNeg (((I kx_ways_span ((v3 * 10) + (I kx_now_cables_first v2.toNatClampNeg)).toNatClampNeg) + (I kx_now_cables_price v2.toNatClampNeg)) + (I kx_ways_span (((I kx_now_cables_second v2.toNatClampNeg) * 10) + v4).toNatClampNeg))) kx_ways_span ((v3 * 10) + v4).toNatClampNeg)) kx_ways_hops ((v3 * 10) + v4).toNatClampNeg (((I kx_ways_hops ((v3 * 10) + (I kx_now_cables_first v2.toNatClampNeg)).toNatClampNeg) + 1) + (I kx_ways_hops (((I kx_now_cables_second v2.toNatClampNeg) * 10) + v4).toNatClampNeg))) kx_ways_hops ((v3 * 10) + v4).toNatClampNeg)) kx_ways_step ((v3 * 10) + v4).toNatClampNeg v2) kx_ways_step ((v4 * 10) + (I kx_now_cables_second v2.toNatClampNeg)).toNatClampNeg)) kx_ways_dearest ((v3 * 10) + v4).toNatClampNeg v2) kx_ways_dearest ((v4 * 10) + v3).toNatClampNeg v2), L, ab_RR, n, nc, ns)))) ∧ (v4 = (I kx_now_cables_second v2.toNatClampNeg) → (res = (.inl none, ((ab_up (ab_up (ab_up (ab_up (ab_up (ab_up (ab_up (ab_up I kx_ways_span ((v3 * 10) + v4).toNatClampNeg (((I kx_ways_span ((v3 * 10) + (I kx_now_cables_first v2.toNatClampNeg)).toNatClampNeg) + (I kx_now_cables_price v2.toNatClampNeg)) + (I kx_ways_span (((I kx_now_cables_second v2.toNatClampNeg) * 10) + v4).toNatClampNeg))) kx_ways_span ((v4 * 10) + v3).toNatClampNeg ((ab_up I kx_ways_span ((v3 * 10) + v4).toNatClampNeg (((I kx_ways_span ((v3 * 10) + (I kx_now_cables_first v2.toNatClampNeg)).toNatClampNeg) + (I kx_now_cables_price v2.toNatClampNeg)) + (I kx_ways_span (((I kx_now_cables_second v2.toNatClampNeg) * 10) + v4).toNatClampNeg))) kx_ways_span ((v3 * 10) + v4).toNatClampNeg)) kx_ways_hops ((v3 * 10) + v4).toNatClampNeg (((I kx_ways_hops ((v3 * 10) + (I kx_now_cables_first v2.toNatClampNeg)).toNatClampNeg) + 1) + (I kx_ways_hops (((I kx_now_cables_second v2.toNatClampNeg) * 10) + v4).toNatClampNeg))) kx_ways_hops ((v4 * 10) + v3).toNatClampNeg ((ab_up (ab_up (ab_up I kx_ways_span ((v3 * 10) + v4).toNatClampNeg (((I kx_ways_span ((v3 * 10) + (I kx_now_cables_first v2.toNatClampNeg)).toNatClampNeg) + (I kx_now_cables_price v2.toNatClampNeg)) + (I kx_ways_span (((I kx_now_cables_second v2.toNatClampNeg) * 10) + v4).toNatClampNeg))) kx_ways_span ((v4 * 10) + v3).toNatClampNeg ((ab_up I kx_ways_span ((v3 * 10) + v4).toNatClampNeg (((I kx_ways_span ((v3 * 10) + (I kx_now_cables_first v2.toNatClampNeg)).toNatClampNeg) + (I kx_now_cables_price v2.toNatClampNeg)) + (I kx_ways_span (((I kx_now_cables_second v2.toNatClampNeg) * 10) + v4).toNatClampNeg))) kx_ways_span ((v3 * 10) + v4).toNatClampNeg)) kx_ways_hops ((v3 * 10) + v4).toNatClampNeg (((I kx_ways_hops ((v3 * 10) + (I kx_now_cables_first v2.toNatClampNeg)).toNatClampNeg) + 1) + (I kx_ways_hops (((I kx_now_cables_second v2.toNatClampNeg) * 10) + v4).toNatClampNeg))) kx_ways_hops ((v3 * 10) + v4).toNatClampNeg)) kx_ways_step ((v3 * 10) + v4).toNatClampNeg v2) kx_ways_step ((v4 * 10) + v3).toNatClampNeg v2) kx_ways_dearest ((v3 * 10) + v4).toNatClampNeg v2) kx_ways_dearest ((v4 * 10) + v3).toNatClampNeg v2), L, ab_RR, n, nc, ns)))))))) : ab_E w (d + 1) mt_Ways_link 0 [.ref kx_ways, .ref kx_now_cables, .int v2, .int v3, .int v4, .null, .null, .null, .null] [] (I, L, ab_RR, n, nc, ns) res := by
  refine ab_aload_n (i := 1) d_Ways_link_0 rfl rfl ?_
  refine ab_getR (ci := 1) (k := 3) (j := kx_now_cables_first) d_Ways_link_1 v_210 rfl (by decide) (by decide) rfl r_kx_now_cables_3 ?_
  refine ab_iload_n (i := 2) d_Ways_link_4 rfl rfl ?_
  have g1 := h.1; have h := h.2
  refine ab_iald d_Ways_link_5 rfl rfl g1 ?_
  refine ab_istore (i := 5) d_Ways_link_6 (by decide) (Or.inr rfl) ?_
  refine ab_aload_n (i := 1) d_Ways_link_8 rfl rfl ?_
  refine ab_getR (ci := 1) (k := 4) (j := kx_now_cables_second) d_Ways_link_9 v_217 rfl (by decide) (by decide) rfl r_kx_now_cables_4 ?_
  refine ab_iload_n (i := 2) d_Ways_link_12 rfl rfl ?_
  refine ab_iald d_Ways_link_13 rfl rfl g1 ?_
  refine ab_istore (i := 6) d_Ways_link_14 (by decide) (Or.inr rfl) ?_
  refine ab_iload_n (i := 3) d_Ways_link_16 rfl rfl ?_
  refine ab_iload (i := 4) d_Ways_link_17 rfl ?_
  refine ab_callS (me2 := mt_Ways_at) (as := [.int v3, .int v4]) (st := []) (rv := (some (.int ((v3 * 10) + v4)))) (M2 := (I, L, ab_RR, n, nc, ns)) d_Ways_link_19 ce_Ways_at ⟨v_458, Or.inl v_457⟩ (Nat.le_of_ble_eq_true rfl) (cx_Ways_at_0 v3 v4 hT) (Nat.le_refl _) (Nat.le_refl _) hc hs (fun j h9 => by cases h9) (fun _ _ => rfl) ?_
  show ab_E w (d + 1) mt_Ways_link 22 [.ref kx_ways, .ref kx_now_cables, .int v2, .int v3, .int v4, .int (I kx_now_cables_first v2.toNatClampNeg), .int (I kx_now_cables_second v2.toNatClampNeg), .null, .null] [.int ((v3 * 10) + v4)] (I, L, ab_RR, n, nc, ns) res
  refine ab_istore (i := 7) d_Ways_link_22 (by decide) (Or.inr rfl) ?_
  refine ab_iload (i := 4) d_Ways_link_24 rfl ?_
  refine ab_iload_n (i := 3) d_Ways_link_26 rfl rfl ?_
  refine ab_callS (me2 := mt_Ways_at) (as := [.int v4, .int v3]) (st := []) (rv := (some (.int ((v4 * 10) + v3)))) (M2 := (I, L, ab_RR, n, nc, ns)) d_Ways_link_27 ce_Ways_at ⟨v_458, Or.inl v_457⟩ (Nat.le_of_ble_eq_true rfl) (cx_Ways_at_0 v4 v3 hT) (Nat.le_refl _) (Nat.le_refl _) hc hs (fun j h9 => by cases h9) (fun _ _ => rfl) ?_
  show ab_E w (d + 1) mt_Ways_link 30 [.ref kx_ways, .ref kx_now_cables, .int v2, .int v3, .int v4, .int (I kx_now_cables_first v2.toNatClampNeg), .int (I kx_now_cables_second v2.toNatClampNeg), .int ((v3 * 10) + v4), .null] [.int ((v4 * 10) + v3)] (I, L, ab_RR, n, nc, ns) res
  refine ab_istore (i := 8) d_Ways_link_30 (by decide) (Or.inr rfl) ?_
  refine ab_aload_n (i := 0) d_Ways_link_32 rfl rfl ?_
  refine ab_getR (ci := 9) (k := 1) (j := kx_ways_span) d_Ways_link_33 v_362 rfl (by decide) (by decide) rfl r_kx_ways_1 ?_
  refine ab_iload (i := 7) d_Ways_link_36 rfl ?_
  refine ab_aload_n (i := 0) d_Ways_link_38 rfl rfl ?_
  refine ab_getR (ci := 9) (k := 1) (j := kx_ways_span) d_Ways_link_39 v_362 rfl (by decide) (by decide) rfl r_kx_ways_1 ?_
  refine ab_iload_n (i := 3) d_Ways_link_42 rfl rfl ?_
  refine ab_iload (i := 5) d_Ways_link_43 rfl ?_
  refine ab_callS (me2 := mt_Ways_at) (as := [.int v3, .int (I kx_now_cables_first v2.toNatClampNeg)]) (st := [.ref kx_ways_span, .int ((v3 * 10) + v4), .ref kx_ways_span]) (rv := (some (.int ((v3 * 10) + (I kx_now_cables_first v2.toNatClampNeg))))) (M2 := (I, L, ab_RR, n, nc, ns)) d_Ways_link_45 ce_Ways_at ⟨v_458, Or.inl v_457⟩ (Nat.le_of_ble_eq_true rfl) (cx_Ways_at_0 v3 (I kx_now_cables_first v2.toNatClampNeg) hT) (Nat.le_refl _) (Nat.le_refl _) hc hs (fun j h9 => by cases h9) (fun _ _ => rfl) ?_
  show ab_E w (d + 1) mt_Ways_link 48 [.ref kx_ways, .ref kx_now_cables, .int v2, .int v3, .int v4, .int (I kx_now_cables_first v2.toNatClampNeg), .int (I kx_now_cables_second v2.toNatClampNeg), .int ((v3 * 10) + v4), .int ((v4 * 10) + v3)] [.int ((v3 * 10) + (I kx_now_cables_first v2.toNatClampNeg)), .ref kx_ways_span, .int ((v3 * 10) + v4), .ref kx_ways_span] (I, L, ab_RR, n, nc, ns) res
  have g5 := h.1; have h := h.2
  refine ab_iald d_Ways_link_48 rfl rfl g5 ?_
  refine ab_aload_n (i := 1) d_Ways_link_49 rfl rfl ?_
  refine ab_getR (ci := 1) (k := 5) (j := kx_now_cables_price) d_Ways_link_50 v_225 rfl (by decide) (by decide) rfl r_kx_now_cables_5 ?_
  refine ab_iload_n (i := 2) d_Ways_link_53 rfl rfl ?_
  refine ab_iald d_Ways_link_54 rfl rfl g1 ?_
  refine ab_iadd d_Ways_link_55 ?_
  refine ab_aload_n (i := 0) d_Ways_link_56 rfl rfl ?_
  refine ab_getR (ci := 9) (k := 1) (j := kx_ways_span) d_Ways_link_57 v_362 rfl (by decide) (by decide) rfl r_kx_ways_1 ?_
  refine ab_iload (i := 6) d_Ways_link_60 rfl ?_
  refine ab_iload (i := 4) d_Ways_link_62 rfl ?_
  refine ab_callS (me2 := mt_Ways_at) (as := [.int (I kx_now_cables_second v2.toNatClampNeg), .int v4]) (st := [.ref kx_ways_span, .int ((I kx_ways_span ((v3 * 10) + (I kx_now_cables_first v2.toNatClampNeg)).toNatClampNeg) + (I kx_now_cables_price v2.toNatClampNeg)), .int ((v3 * 10) + v4), .ref kx_ways_span]) (rv := (some (.int (((I kx_now_cables_second v2.toNatClampNeg) * 10) + v4)))) (M2 := (I, L, ab_RR, n, nc, ns)) d_Ways_link_64 ce_Ways_at ⟨v_458, Or.inl v_457⟩ (Nat.le_of_ble_eq_true rfl) (cx_Ways_at_0 (I kx_now_cables_second v2.toNatClampNeg) v4 hT) (Nat.le_refl _) (Nat.le_refl _) hc hs (fun j h9 => by cases h9) (fun _ _ => rfl) ?_
  show ab_E w (d + 1) mt_Ways_link 67 [.ref kx_ways, .ref kx_now_cables, .int v2, .int v3, .int v4, .int (I kx_now_cables_first v2.toNatClampNeg), .int (I kx_now_cables_second v2.toNatClampNeg), .int ((v3 * 10) + v4), .int ((v4 * 10) + v3)] [.int (((I kx_now_cables_second v2.toNatClampNeg) * 10) + v4), .ref kx_ways_span, .int ((I kx_ways_span ((v3 * 10) + (I kx_now_cables_first v2.toNatClampNeg)).toNatClampNeg) + (I kx_now_cables_price v2.toNatClampNeg)), .int ((v3 * 10) + v4), .ref kx_ways_span] (I, L, ab_RR, n, nc, ns) res
  have g7 := h.1; have h := h.2
  refine ab_iald d_Ways_link_67 rfl rfl g7 ?_
  refine ab_iadd d_Ways_link_68 ?_
  have g8 := h.1; have h := h.2
  refine ab_iast d_Ways_link_69 rfl rfl g8 ?_
  refine ab_aload_n (i := 0) d_Ways_link_70 rfl rfl ?_
  refine ab_getR (ci := 9) (k := 1) (j := kx_ways_span) d_Ways_link_71 v_362 rfl (by decide) (by decide) rfl r_kx_ways_1 ?_
  refine ab_iload (i := 8) d_Ways_link_74 rfl ?_
  refine ab_aload_n (i := 0) d_Ways_link_76 rfl rfl ?_
  refine ab_getR (ci := 9) (k := 1) (j := kx_ways_span) d_Ways_link_77 v_362 rfl (by decide) (by decide) rfl r_kx_ways_1 ?_
  refine ab_iload (i := 7) d_Ways_link_80 rfl ?_
  refine ab_iald d_Ways_link_82 rfl rfl g8 ?_
  have g9 := h.1; have h := h.2
  refine ab_iast d_Ways_link_83 rfl rfl g9 ?_
  refine ab_aload_n (i := 0) d_Ways_link_84 rfl rfl ?_
  refine ab_getR (ci := 9) (k := 2) (j := kx_ways_hops) d_Ways_link_85 v_363 rfl (by decide) (by decide) rfl r_kx_ways_2 ?_
  refine ab_iload (i := 7) d_Ways_link_88 rfl ?_
  refine ab_aload_n (i := 0) d_Ways_link_90 rfl rfl ?_
  refine ab_getR (ci := 9) (k := 2) (j := kx_ways_hops) d_Ways_link_91 v_363 rfl (by decide) (by decide) rfl r_kx_ways_2 ?_
  refine ab_iload_n (i := 3) d_Ways_link_94 rfl rfl ?_
  refine ab_iload (i := 5) d_Ways_link_95 rfl ?_
  refine ab_callS (me2 := mt_Ways_at) (as := [.int v3, .int (I kx_now_cables_first v2.toNatClampNeg)]) (st := [.ref kx_ways_hops, .int ((v3 * 10) + v4), .ref kx_ways_hops]) (rv := (some (.int ((v3 * 10) + (I kx_now_cables_first v2.toNatClampNeg))))) (M2 := ((ab_up (ab_up I kx_ways_span ((v3 * 10) + v4).toNatClampNeg (((I kx_ways_span ((v3 * 10) + (I kx_now_cables_first v2.toNatClampNeg)).toNatClampNeg) + (I kx_now_cables_price v2.toNatClampNeg)) + (I kx_ways_span (((I kx_now_cables_second v2.toNatClampNeg) * 10) + v4).toNatClampNeg))) kx_ways_span ((v4 * 10) + v3).toNatClampNeg ((ab_up I kx_ways_span ((v3 * 10) + v4).toNatClampNeg (((I kx_ways_span ((v3 * 10) + (I kx_now_cables_first v2.toNatClampNeg)).toNatClampNeg) + (I kx_now_cables_price v2.toNatClampNeg)) + (I kx_ways_span (((I kx_now_cables_second v2.toNatClampNeg) * 10) + v4).toNatClampNeg))) kx_ways_span ((v3 * 10) + v4).toNatClampNeg)), L, ab_RR, n, nc, ns)) d_Ways_link_97 ce_Ways_at ⟨v_458, Or.inl v_457⟩ (Nat.le_of_ble_eq_true rfl) (cx_Ways_at_0 v3 (I kx_now_cables_first v2.toNatClampNeg) hT) (Nat.le_refl _) (Nat.le_refl _) hc hs (fun j h9 => by cases h9) (fun _ _ => rfl) ?_
  show ab_E w (d + 1) mt_Ways_link 100 [.ref kx_ways, .ref kx_now_cables, .int v2, .int v3, .int v4, .int (I kx_now_cables_first v2.toNatClampNeg), .int (I kx_now_cables_second v2.toNatClampNeg), .int ((v3 * 10) + v4), .int ((v4 * 10) + v3)] [.int ((v3 * 10) + (I kx_now_cables_first v2.toNatClampNeg)), .ref kx_ways_hops, .int ((v3 * 10) + v4), .ref kx_ways_hops] ((ab_up (ab_up I kx_ways_span ((v3 * 10) + v4).toNatClampNeg (((I kx_ways_span ((v3 * 10) + (I kx_now_cables_first v2.toNatClampNeg)).toNatClampNeg) + (I kx_now_cables_price v2.toNatClampNeg)) + (I kx_ways_span (((I kx_now_cables_second v2.toNatClampNeg) * 10) + v4).toNatClampNeg))) kx_ways_span ((v4 * 10) + v3).toNatClampNeg ((ab_up I kx_ways_span ((v3 * 10) + v4).toNatClampNeg (((I kx_ways_span ((v3 * 10) + (I kx_now_cables_first v2.toNatClampNeg)).toNatClampNeg) + (I kx_now_cables_price v2.toNatClampNeg)) + (I kx_ways_span (((I kx_now_cables_second v2.toNatClampNeg) * 10) + v4).toNatClampNeg))) kx_ways_span ((v3 * 10) + v4).toNatClampNeg)), L, ab_RR, n, nc, ns) res
  refine ab_iald d_Ways_link_100 rfl rfl g5 ?_
  refine ab_iconst (v := 1) d_Ways_link_101 rfl ?_
  refine ab_iadd d_Ways_link_102 ?_
  refine ab_aload_n (i := 0) d_Ways_link_103 rfl rfl ?_
  refine ab_getR (ci := 9) (k := 2) (j := kx_ways_hops) d_Ways_link_104 v_363 rfl (by decide) (by decide) rfl r_kx_ways_2 ?_
  refine ab_iload (i := 6) d_Ways_link_107 rfl ?_
  refine ab_iload (i := 4) d_Ways_link_109 rfl ?_
  refine ab_callS (me2 := mt_Ways_at) (as := [.int (I kx_now_cables_second v2.toNatClampNeg), .int v4]) (st := [.ref kx_ways_hops, .int ((I kx_ways_hops ((v3 * 10) + (I kx_now_cables_first v2.toNatClampNeg)).toNatClampNeg) + 1), .int ((v3 * 10) + v4), .ref kx_ways_hops]) (rv := (some (.int (((I kx_now_cables_second v2.toNatClampNeg) * 10) + v4)))) (M2 := ((ab_up (ab_up I kx_ways_span ((v3 * 10) + v4).toNatClampNeg (((I kx_ways_span ((v3 * 10) + (I kx_now_cables_first v2.toNatClampNeg)).toNatClampNeg) + (I kx_now_cables_price v2.toNatClampNeg)) + (I kx_ways_span (((I kx_now_cables_second v2.toNatClampNeg) * 10) + v4).toNatClampNeg))) kx_ways_span ((v4 * 10) + v3).toNatClampNeg ((ab_up I kx_ways_span ((v3 * 10) + v4).toNatClampNeg (((I kx_ways_span ((v3 * 10) + (I kx_now_cables_first v2.toNatClampNeg)).toNatClampNeg) + (I kx_now_cables_price v2.toNatClampNeg)) + (I kx_ways_span (((I kx_now_cables_second v2.toNatClampNeg) * 10) + v4).toNatClampNeg))) kx_ways_span ((v3 * 10) + v4).toNatClampNeg)), L, ab_RR, n, nc, ns)) d_Ways_link_111 ce_Ways_at ⟨v_458, Or.inl v_457⟩ (Nat.le_of_ble_eq_true rfl) (cx_Ways_at_0 (I kx_now_cables_second v2.toNatClampNeg) v4 hT) (Nat.le_refl _) (Nat.le_refl _) hc hs (fun j h9 => by cases h9) (fun _ _ => rfl) ?_
  show ab_E w (d + 1) mt_Ways_link 114 [.ref kx_ways, .ref kx_now_cables, .int v2, .int v3, .int v4, .int (I kx_now_cables_first v2.toNatClampNeg), .int (I kx_now_cables_second v2.toNatClampNeg), .int ((v3 * 10) + v4), .int ((v4 * 10) + v3)] [.int (((I kx_now_cables_second v2.toNatClampNeg) * 10) + v4), .ref kx_ways_hops, .int ((I kx_ways_hops ((v3 * 10) + (I kx_now_cables_first v2.toNatClampNeg)).toNatClampNeg) + 1), .int ((v3 * 10) + v4), .ref kx_ways_hops] ((ab_up (ab_up I kx_ways_span ((v3 * 10) + v4).toNatClampNeg (((I kx_ways_span ((v3 * 10) + (I kx_now_cables_first v2.toNatClampNeg)).toNatClampNeg) + (I kx_now_cables_price v2.toNatClampNeg)) + (I kx_ways_span (((I kx_now_cables_second v2.toNatClampNeg) * 10) + v4).toNatClampNeg))) kx_ways_span ((v4 * 10) + v3).toNatClampNeg ((ab_up I kx_ways_span ((v3 * 10) + v4).toNatClampNeg (((I kx_ways_span ((v3 * 10) + (I kx_now_cables_first v2.toNatClampNeg)).toNatClampNeg) + (I kx_now_cables_price v2.toNatClampNeg)) + (I kx_ways_span (((I kx_now_cables_second v2.toNatClampNeg) * 10) + v4).toNatClampNeg))) kx_ways_span ((v3 * 10) + v4).toNatClampNeg)), L, ab_RR, n, nc, ns) res
  refine ab_iald d_Ways_link_114 rfl rfl g7 ?_
  refine ab_iadd d_Ways_link_115 ?_
  refine ab_iast d_Ways_link_116 rfl rfl g8 ?_
  refine ab_aload_n (i := 0) d_Ways_link_117 rfl rfl ?_
  refine ab_getR (ci := 9) (k := 2) (j := kx_ways_hops) d_Ways_link_118 v_363 rfl (by decide) (by decide) rfl r_kx_ways_2 ?_
  refine ab_iload (i := 8) d_Ways_link_121 rfl ?_
  refine ab_aload_n (i := 0) d_Ways_link_123 rfl rfl ?_
  refine ab_getR (ci := 9) (k := 2) (j := kx_ways_hops) d_Ways_link_124 v_363 rfl (by decide) (by decide) rfl r_kx_ways_2 ?_
  refine ab_iload (i := 7) d_Ways_link_127 rfl ?_
  refine ab_iald d_Ways_link_129 rfl rfl g8 ?_
  refine ab_iast d_Ways_link_130 rfl rfl g9 ?_
  refine ab_aload_n (i := 0) d_Ways_link_131 rfl rfl ?_
  refine ab_getR (ci := 9) (k := 3) (j := kx_ways_step) d_Ways_link_132 v_364 rfl (by decide) (by decide) rfl r_kx_ways_3 ?_
  refine ab_iload (i := 7) d_Ways_link_135 rfl ?_
  refine ab_iload_n (i := 3) d_Ways_link_137 rfl rfl ?_
  refine ab_iload (i := 5) d_Ways_link_138 rfl ?_
  refine ab_icmp_ne (tgt := 147) d_Ways_link_140 (by decide) (fun c12 => ?_) (fun c12 => ?_)
  · have h := h.1 c12
    refine ab_aload_n (i := 0) d_Ways_link_147 rfl rfl ?_
    refine ab_getR (ci := 9) (k := 3) (j := kx_ways_step) d_Ways_link_148 v_364 rfl (by decide) (by decide) rfl r_kx_ways_3 ?_
    refine ab_iload_n (i := 3) d_Ways_link_151 rfl rfl ?_
    refine ab_iload (i := 5) d_Ways_link_152 rfl ?_
    refine ab_callS (me2 := mt_Ways_at) (as := [.int v3, .int (I kx_now_cables_first v2.toNatClampNeg)]) (st := [.ref kx_ways_step, .int ((v3 * 10) + v4), .ref kx_ways_step]) (rv := (some (.int ((v3 * 10) + (I kx_now_cables_first v2.toNatClampNeg))))) (M2 := ((ab_up (ab_up (ab_up (ab_up I kx_ways_span ((v3 * 10) + v4).toNatClampNeg (((I kx_ways_span ((v3 * 10) + (I kx_now_cables_first v2.toNatClampNeg)).toNatClampNeg) + (I kx_now_cables_price v2.toNatClampNeg)) + (I kx_ways_span (((I kx_now_cables_second v2.toNatClampNeg) * 10) + v4).toNatClampNeg))) kx_ways_span ((v4 * 10) + v3).toNatClampNeg ((ab_up I kx_ways_span ((v3 * 10) + v4).toNatClampNeg (((I kx_ways_span ((v3 * 10) + (I kx_now_cables_first v2.toNatClampNeg)).toNatClampNeg) + (I kx_now_cables_price v2.toNatClampNeg)) + (I kx_ways_span (((I kx_now_cables_second v2.toNatClampNeg) * 10) + v4).toNatClampNeg))) kx_ways_span ((v3 * 10) + v4).toNatClampNeg)) kx_ways_hops ((v3 * 10) + v4).toNatClampNeg (((I kx_ways_hops ((v3 * 10) + (I kx_now_cables_first v2.toNatClampNeg)).toNatClampNeg) + 1) + (I kx_ways_hops (((I kx_now_cables_second v2.toNatClampNeg) * 10) + v4).toNatClampNeg))) kx_ways_hops ((v4 * 10) + v3).toNatClampNeg ((ab_up (ab_up (ab_up I kx_ways_span ((v3 * 10) + v4).toNatClampNeg (((I kx_ways_span ((v3 * 10) + (I kx_now_cables_first v2.toNatClampNeg)).toNatClampNeg) + (I kx_now_cables_price v2.toNatClampNeg)) + (I kx_ways_span (((I kx_now_cables_second v2.toNatClampNeg) * 10) + v4).toNatClampNeg))) kx_ways_span ((v4 * 10) + v3).toNatClampNeg ((ab_up I kx_ways_span ((v3 * 10) + v4).toNatClampNeg (((I kx_ways_span ((v3 * 10) + (I kx_now_cables_first v2.toNatClampNeg)).toNatClampNeg) + (I kx_now_cables_price v2.toNatClampNeg)) + (I kx_ways_span (((I kx_now_cables_second v2.toNatClampNeg) * 10) + v4).toNatClampNeg))) kx_ways_span ((v3 * 10) + v4).toNatClampNeg)) kx_ways_hops ((v3 * 10) + v4).toNatClampNeg (((I kx_ways_hops ((v3 * 10) + (I kx_now_cables_first v2.toNatClampNeg)).toNatClampNeg) + 1) + (I kx_ways_hops (((I kx_now_cables_second v2.toNatClampNeg) * 10) + v4).toNatClampNeg))) kx_ways_hops ((v3 * 10) + v4).toNatClampNeg)), L, ab_RR, n, nc, ns)) d_Ways_link_154 ce_Ways_at ⟨v_458, Or.inl v_457⟩ (Nat.le_of_ble_eq_true rfl) (cx_Ways_at_0 v3 (I kx_now_cables_first v2.toNatClampNeg) hT) (Nat.le_refl _) (Nat.le_refl _) hc hs (fun j h9 => by cases h9) (fun _ _ => rfl) ?_
    show ab_E w (d + 1) mt_Ways_link 157 [.ref kx_ways, .ref kx_now_cables, .int v2, .int v3, .int v4, .int (I kx_now_cables_first v2.toNatClampNeg), .int (I kx_now_cables_second v2.toNatClampNeg), .int ((v3 * 10) + v4), .int ((v4 * 10) + v3)] [.int ((v3 * 10) + (I kx_now_cables_first v2.toNatClampNeg)), .ref kx_ways_step, .int ((v3 * 10) + v4), .ref kx_ways_step] ((ab_up (ab_up (ab_up (ab_up I kx_ways_span ((v3 * 10) + v4).toNatClampNeg (((I kx_ways_span ((v3 * 10) + (I kx_now_cables_first v2.toNatClampNeg)).toNatClampNeg) + (I kx_now_cables_price v2.toNatClampNeg)) + (I kx_ways_span (((I kx_now_cables_second v2.toNatClampNeg) * 10) + v4).toNatClampNeg))) kx_ways_span ((v4 * 10) + v3).toNatClampNeg ((ab_up I kx_ways_span ((v3 * 10) + v4).toNatClampNeg (((I kx_ways_span ((v3 * 10) + (I kx_now_cables_first v2.toNatClampNeg)).toNatClampNeg) + (I kx_now_cables_price v2.toNatClampNeg)) + (I kx_ways_span (((I kx_now_cables_second v2.toNatClampNeg) * 10) + v4).toNatClampNeg))) kx_ways_span ((v3 * 10) + v4).toNatClampNeg)) kx_ways_hops ((v3 * 10) + v4).toNatClampNeg (((I kx_ways_hops ((v3 * 10) + (I kx_now_cables_first v2.toNatClampNeg)).toNatClampNeg) + 1) + (I kx_ways_hops (((I kx_now_cables_second v2.toNatClampNeg) * 10) + v4).toNatClampNeg))) kx_ways_hops ((v4 * 10) + v3).toNatClampNeg ((ab_up (ab_up (ab_up I kx_ways_span ((v3 * 10) + v4).toNatClampNeg (((I kx_ways_span ((v3 * 10) + (I kx_now_cables_first v2.toNatClampNeg)).toNatClampNeg) + (I kx_now_cables_price v2.toNatClampNeg)) + (I kx_ways_span (((I kx_now_cables_second v2.toNatClampNeg) * 10) + v4).toNatClampNeg))) kx_ways_span ((v4 * 10) + v3).toNatClampNeg ((ab_up I kx_ways_span ((v3 * 10) + v4).toNatClampNeg (((I kx_ways_span ((v3 * 10) + (I kx_now_cables_first v2.toNatClampNeg)).toNatClampNeg) + (I kx_now_cables_price v2.toNatClampNeg)) + (I kx_ways_span (((I kx_now_cables_second v2.toNatClampNeg) * 10) + v4).toNatClampNeg))) kx_ways_span ((v3 * 10) + v4).toNatClampNeg)) kx_ways_hops ((v3 * 10) + v4).toNatClampNeg (((I kx_ways_hops ((v3 * 10) + (I kx_now_cables_first v2.toNatClampNeg)).toNatClampNeg) + 1) + (I kx_ways_hops (((I kx_now_cables_second v2.toNatClampNeg) * 10) + v4).toNatClampNeg))) kx_ways_hops ((v3 * 10) + v4).toNatClampNeg)), L, ab_RR, n, nc, ns) res
    refine ab_iald d_Ways_link_157 rfl rfl g5 ?_
    refine ab_iast d_Ways_link_158 rfl rfl g8 ?_
    refine ab_aload_n (i := 0) d_Ways_link_159 rfl rfl ?_
    refine ab_getR (ci := 9) (k := 3) (j := kx_ways_step) d_Ways_link_160 v_364 rfl (by decide) (by decide) rfl r_kx_ways_3 ?_
    refine ab_iload (i := 8) d_Ways_link_163 rfl ?_
    refine ab_iload (i := 4) d_Ways_link_165 rfl ?_
    refine ab_iload (i := 6) d_Ways_link_167 rfl ?_
    refine ab_icmp_ne (tgt := 176) d_Ways_link_169 (by decide) (fun c14 => ?_) (fun c14 => ?_)
    · have h := h.1 c14
      refine ab_aload_n (i := 0) d_Ways_link_176 rfl rfl ?_
      refine ab_getR (ci := 9) (k := 3) (j := kx_ways_step) d_Ways_link_177 v_364 rfl (by decide) (by decide) rfl r_kx_ways_3 ?_
      refine ab_iload (i := 4) d_Ways_link_180 rfl ?_
      refine ab_iload (i := 6) d_Ways_link_182 rfl ?_
      refine ab_callS (me2 := mt_Ways_at) (as := [.int v4, .int (I kx_now_cables_second v2.toNatClampNeg)]) (st := [.ref kx_ways_step, .int ((v4 * 10) + v3), .ref kx_ways_step]) (rv := (some (.int ((v4 * 10) + (I kx_now_cables_second v2.toNatClampNeg))))) (M2 := ((ab_up (ab_up (ab_up (ab_up (ab_up I kx_ways_span ((v3 * 10) + v4).toNatClampNeg (((I kx_ways_span ((v3 * 10) + (I kx_now_cables_first v2.toNatClampNeg)).toNatClampNeg) + (I kx_now_cables_price v2.toNatClampNeg)) + (I kx_ways_span (((I kx_now_cables_second v2.toNatClampNeg) * 10) + v4).toNatClampNeg))) kx_ways_span ((v4 * 10) + v3).toNatClampNeg ((ab_up I kx_ways_span ((v3 * 10) + v4).toNatClampNeg (((I kx_ways_span ((v3 * 10) + (I kx_now_cables_first v2.toNatClampNeg)).toNatClampNeg) + (I kx_now_cables_price v2.toNatClampNeg)) + (I kx_ways_span (((I kx_now_cables_second v2.toNatClampNeg) * 10) + v4).toNatClampNeg))) kx_ways_span ((v3 * 10) + v4).toNatClampNeg)) kx_ways_hops ((v3 * 10) + v4).toNatClampNeg (((I kx_ways_hops ((v3 * 10) + (I kx_now_cables_first v2.toNatClampNeg)).toNatClampNeg) + 1) + (I kx_ways_hops (((I kx_now_cables_second v2.toNatClampNeg) * 10) + v4).toNatClampNeg))) kx_ways_hops ((v4 * 10) + v3).toNatClampNeg ((ab_up (ab_up (ab_up I kx_ways_span ((v3 * 10) + v4).toNatClampNeg (((I kx_ways_span ((v3 * 10) + (I kx_now_cables_first v2.toNatClampNeg)).toNatClampNeg) + (I kx_now_cables_price v2.toNatClampNeg)) + (I kx_ways_span (((I kx_now_cables_second v2.toNatClampNeg) * 10) + v4).toNatClampNeg))) kx_ways_span ((v4 * 10) + v3).toNatClampNeg ((ab_up I kx_ways_span ((v3 * 10) + v4).toNatClampNeg (((I kx_ways_span ((v3 * 10) + (I kx_now_cables_first v2.toNatClampNeg)).toNatClampNeg) + (I kx_now_cables_price v2.toNatClampNeg)) + (I kx_ways_span (((I kx_now_cables_second v2.toNatClampNeg) * 10) + v4).toNatClampNeg))) kx_ways_span ((v3 * 10) + v4).toNatClampNeg)) kx_ways_hops ((v3 * 10) + v4).toNatClampNeg (((I kx_ways_hops ((v3 * 10) + (I kx_now_cables_first v2.toNatClampNeg)).toNatClampNeg) + 1) + (I kx_ways_hops (((I kx_now_cables_second v2.toNatClampNeg) * 10) + v4).toNatClampNeg))) kx_ways_hops ((v3 * 10) + v4).toNatClampNeg)) kx_ways_step ((v3 * 10) + v4).toNatClampNeg (I kx_ways_step ((v3 * 10) + (I kx_now_cables_first v2.toNatClampNeg)).toNatClampNeg)), L, ab_RR, n, nc, ns)) d_Ways_link_184 ce_Ways_at ⟨v_458, Or.inl v_457⟩ (Nat.le_of_ble_eq_true rfl) (cx_Ways_at_0 v4 (I kx_now_cables_second v2.toNatClampNeg) hT) (Nat.le_refl _) (Nat.le_refl _) hc hs (fun j h9 => by cases h9) (fun _ _ => rfl) ?_
      show ab_E w (d + 1) mt_Ways_link 187 [.ref kx_ways, .ref kx_now_cables, .int v2, .int v3, .int v4, .int (I kx_now_cables_first v2.toNatClampNeg), .int (I kx_now_cables_second v2.toNatClampNeg), .int ((v3 * 10) + v4), .int ((v4 * 10) + v3)] [.int ((v4 * 10) + (I kx_now_cables_second v2.toNatClampNeg)), .ref kx_ways_step, .int ((v4 * 10) + v3), .ref kx_ways_step] ((ab_up (ab_up (ab_up (ab_up (ab_up I kx_ways_span ((v3 * 10) + v4).toNatClampNeg (((I kx_ways_span ((v3 * 10) + (I kx_now_cables_first v2.toNatClampNeg)).toNatClampNeg) + (I kx_now_cables_price v2.toNatClampNeg)) + (I kx_ways_span (((I kx_now_cables_second v2.toNatClampNeg) * 10) + v4).toNatClampNeg))) kx_ways_span ((v4 * 10) + v3).toNatClampNeg ((ab_up I kx_ways_span ((v3 * 10) + v4).toNatClampNeg (((I kx_ways_span ((v3 * 10) + (I kx_now_cables_first v2.toNatClampNeg)).toNatClampNeg) + (I kx_now_cables_price v2.toNatClampNeg)) + (I kx_ways_span (((I kx_now_cables_second v2.toNatClampNeg) * 10) + v4).toNatClampNeg))) kx_ways_span ((v3 * 10) + v4).toNatClampNeg)) kx_ways_hops ((v3 * 10) + v4).toNatClampNeg (((I kx_ways_hops ((v3 * 10) + (I kx_now_cables_first v2.toNatClampNeg)).toNatClampNeg) + 1) + (I kx_ways_hops (((I kx_now_cables_second v2.toNatClampNeg) * 10) + v4).toNatClampNeg))) kx_ways_hops ((v4 * 10) + v3).toNatClampNeg ((ab_up (ab_up (ab_up I kx_ways_span ((v3 * 10) + v4).toNatClampNeg (((I kx_ways_span ((v3 * 10) + (I kx_now_cables_first v2.toNatClampNeg)).toNatClampNeg) + (I kx_now_cables_price v2.toNatClampNeg)) + (I kx_ways_span (((I kx_now_cables_second v2.toNatClampNeg) * 10) + v4).toNatClampNeg))) kx_ways_span ((v4 * 10) + v3).toNatClampNeg ((ab_up I kx_ways_span ((v3 * 10) + v4).toNatClampNeg (((I kx_ways_span ((v3 * 10) + (I kx_now_cables_first v2.toNatClampNeg)).toNatClampNeg) + (I kx_now_cables_price v2.toNatClampNeg)) + (I kx_ways_span (((I kx_now_cables_second v2.toNatClampNeg) * 10) + v4).toNatClampNeg))) kx_ways_span ((v3 * 10) + v4).toNatClampNeg)) kx_ways_hops ((v3 * 10) + v4).toNatClampNeg (((I kx_ways_hops ((v3 * 10) + (I kx_now_cables_first v2.toNatClampNeg)).toNatClampNeg) + 1) + (I kx_ways_hops (((I kx_now_cables_second v2.toNatClampNeg) * 10) + v4).toNatClampNeg))) kx_ways_hops ((v3 * 10) + v4).toNatClampNeg)) kx_ways_step ((v3 * 10) + v4).toNatClampNeg (I kx_ways_step ((v3 * 10) + (I kx_now_cables_first v2.toNatClampNeg)).toNatClampNeg)), L, ab_RR, n, nc, ns) res
      have g16 := h.1; have h := h.2
      refine ab_iald d_Ways_link_187 rfl rfl g16 ?_
      refine ab_iast d_Ways_link_188 rfl rfl g9 ?_
      refine ab_aload_n (i := 0) d_Ways_link_189 rfl rfl ?_
      refine ab_getR (ci := 9) (k := 4) (j := kx_ways_dearest) d_Ways_link_190 v_365 rfl (by decide) (by decide) rfl r_kx_ways_4 ?_
      refine ab_iload (i := 7) d_Ways_link_193 rfl ?_
      refine ab_iload_n (i := 2) d_Ways_link_195 rfl rfl ?_
      refine ab_iast d_Ways_link_196 rfl rfl g8 ?_
      refine ab_aload_n (i := 0) d_Ways_link_197 rfl rfl ?_
      refine ab_getR (ci := 9) (k := 4) (j := kx_ways_dearest) d_Ways_link_198 v_365 rfl (by decide) (by decide) rfl r_kx_ways_4 ?_
      refine ab_iload (i := 8) d_Ways_link_201 rfl ?_
      refine ab_iload_n (i := 2) d_Ways_link_203 rfl rfl ?_
      refine ab_iast d_Ways_link_204 rfl rfl g9 ?_
      exact ab_vret d_Ways_link_205 rfl h
    · have h := h.2 c14
      refine ab_iload_n (i := 2) d_Ways_link_172 rfl rfl ?_
      refine ab_goto (tgt := 188) d_Ways_link_173 (by decide) ?_
      refine ab_iast d_Ways_link_188 rfl rfl g9 ?_
      refine ab_aload_n (i := 0) d_Ways_link_189 rfl rfl ?_
      refine ab_getR (ci := 9) (k := 4) (j := kx_ways_dearest) d_Ways_link_190 v_365 rfl (by decide) (by decide) rfl r_kx_ways_4 ?_
      refine ab_iload (i := 7) d_Ways_link_193 rfl ?_
      refine ab_iload_n (i := 2) d_Ways_link_195 rfl rfl ?_
      refine ab_iast d_Ways_link_196 rfl rfl g8 ?_
      refine ab_aload_n (i := 0) d_Ways_link_197 rfl rfl ?_
      refine ab_getR (ci := 9) (k := 4) (j := kx_ways_dearest) d_Ways_link_198 v_365 rfl (by decide) (by decide) rfl r_kx_ways_4 ?_
      refine ab_iload (i := 8) d_Ways_link_201 rfl ?_
      refine ab_iload_n (i := 2) d_Ways_link_203 rfl rfl ?_
      refine ab_iast d_Ways_link_204 rfl rfl g9 ?_
      exact ab_vret d_Ways_link_205 rfl h
  · have h := h.2 c12
    refine ab_iload_n (i := 2) d_Ways_link_143 rfl rfl ?_
    refine ab_goto (tgt := 158) d_Ways_link_144 (by decide) ?_
    refine ab_iast d_Ways_link_158 rfl rfl g8 ?_
    refine ab_aload_n (i := 0) d_Ways_link_159 rfl rfl ?_
    refine ab_getR (ci := 9) (k := 3) (j := kx_ways_step) d_Ways_link_160 v_364 rfl (by decide) (by decide) rfl r_kx_ways_3 ?_
    refine ab_iload (i := 8) d_Ways_link_163 rfl ?_
    refine ab_iload (i := 4) d_Ways_link_165 rfl ?_
    refine ab_iload (i := 6) d_Ways_link_167 rfl ?_
    refine ab_icmp_ne (tgt := 176) d_Ways_link_169 (by decide) (fun c17 => ?_) (fun c17 => ?_)
    · have h := h.1 c17
      refine ab_aload_n (i := 0) d_Ways_link_176 rfl rfl ?_
      refine ab_getR (ci := 9) (k := 3) (j := kx_ways_step) d_Ways_link_177 v_364 rfl (by decide) (by decide) rfl r_kx_ways_3 ?_
      refine ab_iload (i := 4) d_Ways_link_180 rfl ?_
      refine ab_iload (i := 6) d_Ways_link_182 rfl ?_
      refine ab_callS (me2 := mt_Ways_at) (as := [.int v4, .int (I kx_now_cables_second v2.toNatClampNeg)]) (st := [.ref kx_ways_step, .int ((v4 * 10) + v3), .ref kx_ways_step]) (rv := (some (.int ((v4 * 10) + (I kx_now_cables_second v2.toNatClampNeg))))) (M2 := ((ab_up (ab_up (ab_up (ab_up (ab_up I kx_ways_span ((v3 * 10) + v4).toNatClampNeg (((I kx_ways_span ((v3 * 10) + (I kx_now_cables_first v2.toNatClampNeg)).toNatClampNeg) + (I kx_now_cables_price v2.toNatClampNeg)) + (I kx_ways_span (((I kx_now_cables_second v2.toNatClampNeg) * 10) + v4).toNatClampNeg))) kx_ways_span ((v4 * 10) + v3).toNatClampNeg ((ab_up I kx_ways_span ((v3 * 10) + v4).toNatClampNeg (((I kx_ways_span ((v3 * 10) + (I kx_now_cables_first v2.toNatClampNeg)).toNatClampNeg) + (I kx_now_cables_price v2.toNatClampNeg)) + (I kx_ways_span (((I kx_now_cables_second v2.toNatClampNeg) * 10) + v4).toNatClampNeg))) kx_ways_span ((v3 * 10) + v4).toNatClampNeg)) kx_ways_hops ((v3 * 10) + v4).toNatClampNeg (((I kx_ways_hops ((v3 * 10) + (I kx_now_cables_first v2.toNatClampNeg)).toNatClampNeg) + 1) + (I kx_ways_hops (((I kx_now_cables_second v2.toNatClampNeg) * 10) + v4).toNatClampNeg))) kx_ways_hops ((v4 * 10) + v3).toNatClampNeg ((ab_up (ab_up (ab_up I kx_ways_span ((v3 * 10) + v4).toNatClampNeg (((I kx_ways_span ((v3 * 10) + (I kx_now_cables_first v2.toNatClampNeg)).toNatClampNeg) + (I kx_now_cables_price v2.toNatClampNeg)) + (I kx_ways_span (((I kx_now_cables_second v2.toNatClampNeg) * 10) + v4).toNatClampNeg))) kx_ways_span ((v4 * 10) + v3).toNatClampNeg ((ab_up I kx_ways_span ((v3 * 10) + v4).toNatClampNeg (((I kx_ways_span ((v3 * 10) + (I kx_now_cables_first v2.toNatClampNeg)).toNatClampNeg) + (I kx_now_cables_price v2.toNatClampNeg)) + (I kx_ways_span (((I kx_now_cables_second v2.toNatClampNeg) * 10) + v4).toNatClampNeg))) kx_ways_span ((v3 * 10) + v4).toNatClampNeg)) kx_ways_hops ((v3 * 10) + v4).toNatClampNeg (((I kx_ways_hops ((v3 * 10) + (I kx_now_cables_first v2.toNatClampNeg)).toNatClampNeg) + 1) + (I kx_ways_hops (((I kx_now_cables_second v2.toNatClampNeg) * 10) + v4).toNatClampNeg))) kx_ways_hops ((v3 * 10) + v4).toNatClampNeg)) kx_ways_step ((v3 * 10) + v4).toNatClampNeg v2), L, ab_RR, n, nc, ns)) d_Ways_link_184 ce_Ways_at ⟨v_458, Or.inl v_457⟩ (Nat.le_of_ble_eq_true rfl) (cx_Ways_at_0 v4 (I kx_now_cables_second v2.toNatClampNeg) hT) (Nat.le_refl _) (Nat.le_refl _) hc hs (fun j h9 => by cases h9) (fun _ _ => rfl) ?_
      show ab_E w (d + 1) mt_Ways_link 187 [.ref kx_ways, .ref kx_now_cables, .int v2, .int v3, .int v4, .int (I kx_now_cables_first v2.toNatClampNeg), .int (I kx_now_cables_second v2.toNatClampNeg), .int ((v3 * 10) + v4), .int ((v4 * 10) + v3)] [.int ((v4 * 10) + (I kx_now_cables_second v2.toNatClampNeg)), .ref kx_ways_step, .int ((v4 * 10) + v3), .ref kx_ways_step] ((ab_up (ab_up (ab_up (ab_up (ab_up I kx_ways_span ((v3 * 10) + v4).toNatClampNeg (((I kx_ways_span ((v3 * 10) + (I kx_now_cables_first v2.toNatClampNeg)).toNatClampNeg) + (I kx_now_cables_price v2.toNatClampNeg)) + (I kx_ways_span (((I kx_now_cables_second v2.toNatClampNeg) * 10) + v4).toNatClampNeg))) kx_ways_span ((v4 * 10) + v3).toNatClampNeg ((ab_up I kx_ways_span ((v3 * 10) + v4).toNatClampNeg (((I kx_ways_span ((v3 * 10) + (I kx_now_cables_first v2.toNatClampNeg)).toNatClampNeg) + (I kx_now_cables_price v2.toNatClampNeg)) + (I kx_ways_span (((I kx_now_cables_second v2.toNatClampNeg) * 10) + v4).toNatClampNeg))) kx_ways_span ((v3 * 10) + v4).toNatClampNeg)) kx_ways_hops ((v3 * 10) + v4).toNatClampNeg (((I kx_ways_hops ((v3 * 10) + (I kx_now_cables_first v2.toNatClampNeg)).toNatClampNeg) + 1) + (I kx_ways_hops (((I kx_now_cables_second v2.toNatClampNeg) * 10) + v4).toNatClampNeg))) kx_ways_hops ((v4 * 10) + v3).toNatClampNeg ((ab_up (ab_up (ab_up I kx_ways_span ((v3 * 10) + v4).toNatClampNeg (((I kx_ways_span ((v3 * 10) + (I kx_now_cables_first v2.toNatClampNeg)).toNatClampNeg) + (I kx_now_cables_price v2.toNatClampNeg)) + (I kx_ways_span (((I kx_now_cables_second v2.toNatClampNeg) * 10) + v4).toNatClampNeg))) kx_ways_span ((v4 * 10) + v3).toNatClampNeg ((ab_up I kx_ways_span ((v3 * 10) + v4).toNatClampNeg (((I kx_ways_span ((v3 * 10) + (I kx_now_cables_first v2.toNatClampNeg)).toNatClampNeg) + (I kx_now_cables_price v2.toNatClampNeg)) + (I kx_ways_span (((I kx_now_cables_second v2.toNatClampNeg) * 10) + v4).toNatClampNeg))) kx_ways_span ((v3 * 10) + v4).toNatClampNeg)) kx_ways_hops ((v3 * 10) + v4).toNatClampNeg (((I kx_ways_hops ((v3 * 10) + (I kx_now_cables_first v2.toNatClampNeg)).toNatClampNeg) + 1) + (I kx_ways_hops (((I kx_now_cables_second v2.toNatClampNeg) * 10) + v4).toNatClampNeg))) kx_ways_hops ((v3 * 10) + v4).toNatClampNeg)) kx_ways_step ((v3 * 10) + v4).toNatClampNeg v2), L, ab_RR, n, nc, ns) res
      have g19 := h.1; have h := h.2
      refine ab_iald d_Ways_link_187 rfl rfl g19 ?_
      refine ab_iast d_Ways_link_188 rfl rfl g9 ?_
      refine ab_aload_n (i := 0) d_Ways_link_189 rfl rfl ?_
      refine ab_getR (ci := 9) (k := 4) (j := kx_ways_dearest) d_Ways_link_190 v_365 rfl (by decide) (by decide) rfl r_kx_ways_4 ?_
      refine ab_iload (i := 7) d_Ways_link_193 rfl ?_
      refine ab_iload_n (i := 2) d_Ways_link_195 rfl rfl ?_
      refine ab_iast d_Ways_link_196 rfl rfl g8 ?_
      refine ab_aload_n (i := 0) d_Ways_link_197 rfl rfl ?_
      refine ab_getR (ci := 9) (k := 4) (j := kx_ways_dearest) d_Ways_link_198 v_365 rfl (by decide) (by decide) rfl r_kx_ways_4 ?_
      refine ab_iload (i := 8) d_Ways_link_201 rfl ?_
      refine ab_iload_n (i := 2) d_Ways_link_203 rfl rfl ?_
      refine ab_iast d_Ways_link_204 rfl rfl g9 ?_
      exact ab_vret d_Ways_link_205 rfl h
    · have h := h.2 c17
      refine ab_iload_n (i := 2) d_Ways_link_172 rfl rfl ?_
      refine ab_goto (tgt := 188) d_Ways_link_173 (by decide) ?_
      refine ab_iast d_Ways_link_188 rfl rfl g9 ?_
      refine ab_aload_n (i := 0) d_Ways_link_189 rfl rfl ?_
      refine ab_getR (ci := 9) (k := 4) (j := kx_ways_dearest) d_Ways_link_190 v_365 rfl (by decide) (by decide) rfl r_kx_ways_4 ?_
      refine ab_iload (i := 7) d_Ways_link_193 rfl ?_
      refine ab_iload_n (i := 2) d_Ways_link_195 rfl rfl ?_
      refine ab_iast d_Ways_link_196 rfl rfl g8 ?_
      refine ab_aload_n (i := 0) d_Ways_link_197 rfl rfl ?_
      refine ab_getR (ci := 9) (k := 4) (j := kx_ways_dearest) d_Ways_link_198 v_365 rfl (by decide) (by decide) rfl r_kx_ways_4 ?_
      refine ab_iload (i := 8) d_Ways_link_201 rfl ?_
      refine ab_iload_n (i := 2) d_Ways_link_203 rfl rfl ?_
      refine ab_iast d_Ways_link_204 rfl rfl g9 ?_
      exact ab_vret d_Ways_link_205 rfl h
theorem r_Str_isLatin1_0 {w : ab_Wd} {d n nc ns : Nat} {I : Nat → Nat → Int32} {L : Nat → Nat → Int64} {res : ab_Re} (hT : w.1.stackTraces = false) {j : Nat} (hj : j < 8) (hc : nc ≤ res.2.2.2.2.2.1) (hs : ns ≤ res.2.2.2.2.2.2)
    (h : res = (.inl (some (.int 1)), (I, L, ab_RR, n, nc, ns))) : ab_E w d mt_Str_isLatin1 0 [.ref (64 * j + 32)] [] (I, L, ab_RR, n, nc, ns) res := by
  refine ab_compact d_Str_isLatin1_0 v_841 ?_
  refine ab_if_eq (tgt := 17) d_Str_isLatin1_3 (by decide) (fun c9 => absurd c9 (show ¬ (1 : Int32) = 0 from by decide)) (fun _ => ?_)
  refine ab_aload_n (i := 0) d_Str_isLatin1_6 rfl rfl ?_
  refine ab_sgetC (j := j) d_Str_isLatin1_7 hj v_2016 ?_
  refine ab_if_ne (tgt := 17) d_Str_isLatin1_10 (by decide) (fun c9 => absurd (show (0 : Int32) = 0 from by decide) c9) (fun _ => ?_)
  refine ab_iconst (v := 1) d_Str_isLatin1_13 rfl ?_
  refine ab_goto (tgt := 18) d_Str_isLatin1_14 (by decide) ?_
  exact ab_iret (ty := .boolean) d_Str_isLatin1_18 rfl rfl h
theorem r_Lat_charAt_0 {w : ab_Wd} {d n nc ns : Nat} {I : Nat → Nat → Int32} {L : Nat → Nat → Int64} {res : ab_Re} (hT : w.1.stackTraces = false) {j : Nat} (hj : j < 8) (v1 : Int32) (hc : nc ≤ res.2.2.2.2.2.1) (hs : ns ≤ res.2.2.2.2.2.2)
    (h : ab_C w d mt_Str_checkIndex [.int v1, .int (Int32.ofNat (ab_slen.getD j 0))] (I, L, ab_RR, n, nc, ns) (.inl none, (I, L, ab_RR, n, nc, ns)) ∧ (vp_in v1 (ab_slen.getD j 0)) ∧ (narrow .char (.int (ab_i2c16 (((ab_sbyt.getD j []).getD v1.toNatClampNeg 0) &&& 255))) = .int (ab_i2c16 (((ab_sbyt.getD j []).getD v1.toNatClampNeg 0) &&& 255))) ∧ res = (.inl (some (.int (ab_i2c16 (((ab_sbyt.getD j []).getD v1.toNatClampNeg 0) &&& 255)))), (I, L, ab_RR, n, nc, ns))) : ab_E w (d + 1) mt_Lat_charAt 0 [.ref (64 * j + 33), .int v1] [] (I, L, ab_RR, n, nc, ns) res := by
  refine ab_iload_n (i := 1) d_Lat_charAt_0 rfl rfl ?_
  refine ab_aload_n (i := 0) d_Lat_charAt_1 rfl rfl ?_
  refine ab_sblen (j := j) (v := (Int32.ofNat (ab_slen.getD j 0))) d_Lat_charAt_2 hj rfl ?_
  obtain ⟨hC, h⟩ := h
  refine ab_callS (me2 := mt_Str_checkIndex) (as := [.int v1, .int (Int32.ofNat (ab_slen.getD j 0))]) (st := []) (rv := none) (M2 := (I, L, ab_RR, n, nc, ns)) d_Lat_charAt_3 ce_Str_checkIndex ⟨v_855, Or.inl v_854⟩ (Nat.le_of_ble_eq_true rfl) hC (Nat.le_refl _) (Nat.le_refl _) hc hs (fun j h9 => by cases h9) (fun _ _ => rfl) ?_
  show ab_E w (d + 1) mt_Lat_charAt 6 [.ref (64 * j + 33), .int v1] [] (I, L, ab_RR, n, nc, ns) res
  refine ab_aload_n (i := 0) d_Lat_charAt_6 rfl rfl ?_
  refine ab_iload_n (i := 1) d_Lat_charAt_7 rfl rfl ?_
  have g2 := h.1; have h := h.2
  refine ab_sbald (j := j) d_Lat_charAt_8 hj g2 ?_
  refine ab_sipush (v := 255) d_Lat_charAt_9 rfl ?_
  refine ab_iand d_Lat_charAt_12 ?_
  refine ab_i2c (v := (ab_i2c16 (((ab_sbyt.getD j []).getD v1.toNatClampNeg 0) &&& 255))) d_Lat_charAt_13 rfl ?_
  have g3 := h.1; have h := h.2
  exact ab_iret (ty := .char) d_Lat_charAt_14 rfl g3 h
theorem r_Str_coder_0 {w : ab_Wd} {d n nc ns : Nat} {I : Nat → Nat → Int32} {L : Nat → Nat → Int64} {res : ab_Re} (hT : w.1.stackTraces = false) {j : Nat} (hj : j < 8) (hc : nc ≤ res.2.2.2.2.2.1) (hs : ns ≤ res.2.2.2.2.2.2)
    (h : res = (.inl (some (.int 0)), (I, L, ab_RR, n, nc, ns))) : ab_E w d mt_Str_coder 0 [.ref (64 * j + 32)] [] (I, L, ab_RR, n, nc, ns) res := by
  refine ab_compact d_Str_coder_0 v_841 ?_
  refine ab_if_eq (tgt := 13) d_Str_coder_3 (by decide) (fun c9 => absurd c9 (show ¬ (1 : Int32) = 0 from by decide)) (fun _ => ?_)
  refine ab_aload_n (i := 0) d_Str_coder_6 rfl rfl ?_
  refine ab_sgetC (j := j) d_Str_coder_7 hj v_2016 ?_
  refine ab_goto (tgt := 14) d_Str_coder_10 (by decide) ?_
  exact ab_iret (ty := .byte) d_Str_coder_14 rfl rfl h
theorem r_Reader_readNumber_0 {w : ab_Wd} {d n nc ns : Nat} {I : Nat → Nat → Int32} {L : Nat → Nat → Int64} {res : ab_Re} (hT : w.1.stackTraces = false) (v1 : Int32) (v2 : Int32) (hc : nc ≤ res.2.2.2.2.2.1) (hs : ns ≤ res.2.2.2.2.2.2)
    (h : (((I kx_reader 4) = 2 → ((3 < ((I kx_reader 3) - (I kx_reader 5)) → (((I kx_reader 7) = 0 → (res = (.inl (some (.int v1)), ((ab_up (ab_up I kx_reader 7 2) kx_reader 8 (I kx_reader 5)), L, ab_RR, n, nc, ns)))) ∧ (¬ (I kx_reader 7) = 0 → (res = (.inl (some (.int v1)), (I, L, ab_RR, n, nc, ns)))))) ∧ (¬ 3 < ((I kx_reader 3) - (I kx_reader 5)) → (((I kx_reader 6) < v1 → (((I kx_reader 7) = 0 → (res = (.inl (some (.int v1)), ((ab_up (ab_up I kx_reader 7 2) kx_reader 8 (I kx_reader 5)), L, ab_RR, n, nc, ns)))) ∧ (¬ (I kx_reader 7) = 0 → (res = (.inl (some (.int v1)), (I, L, ab_RR, n, nc, ns)))))) ∧ (¬ (I kx_reader 6) < v1 → (((I kx_reader 6) ≤ v2 → (res = (.inl (some (.int (I kx_reader 6))), (I, L, ab_RR, n, nc, ns)))) ∧ (¬ (I kx_reader 6) ≤ v2 → (((I kx_reader 7) = 0 → (res = (.inl (some (.int v1)), ((ab_up (ab_up I kx_reader 7 2) kx_reader 8 (I kx_reader 5)), L, ab_RR, n, nc, ns)))) ∧ (¬ (I kx_reader 7) = 0 → (res = (.inl (some (.int v1)), (I, L, ab_RR, n, nc, ns)))))))))))) ∧ (¬ (I kx_reader 4) = 2 → (((I kx_reader 7) = 0 → (res = (.inl (some (.int v1)), ((ab_up (ab_up I kx_reader 7 1) kx_reader 8 (I kx_reader 5)), L, ab_RR, n, nc, ns)))) ∧ (¬ (I kx_reader 7) = 0 → (res = (.inl (some (.int v1)), (I, L, ab_RR, n, nc, ns)))))))) : ab_E w (d + 1) mt_Reader_readNumber 0 [.ref kx_reader, .int v1, .int v2] [] (I, L, ab_RR, n, nc, ns) res := by
  refine ab_aload_n (i := 0) d_Reader_readNumber_0 rfl rfl ?_
  refine ab_getI (ci := 4) (k := 4) d_Reader_readNumber_1 v_771 rfl (by decide) (by decide) rfl ?_
  refine ab_iconst (v := 2) d_Reader_readNumber_4 rfl ?_
  refine ab_icmp_eq (tgt := 15) d_Reader_readNumber_5 (by decide) (fun c1 => ?_) (fun c1 => ?_)
  · have h := h.1 c1
    refine ab_aload_n (i := 0) d_Reader_readNumber_15 rfl rfl ?_
    refine ab_getI (ci := 4) (k := 3) d_Reader_readNumber_16 v_770 rfl (by decide) (by decide) rfl ?_
    refine ab_aload_n (i := 0) d_Reader_readNumber_19 rfl rfl ?_
    refine ab_getI (ci := 4) (k := 5) d_Reader_readNumber_20 v_772 rfl (by decide) (by decide) rfl ?_
    refine ab_isub d_Reader_readNumber_23 ?_
    refine ab_iconst (v := 3) d_Reader_readNumber_24 rfl ?_
    refine ab_icmp_gt (tgt := 44) d_Reader_readNumber_25 (by decide) (fun c2 => ?_) (fun c2 => ?_)
    · have h := h.1 c2
      refine ab_aload_n (i := 0) d_Reader_readNumber_44 rfl rfl ?_
      refine ab_iconst (v := 2) d_Reader_readNumber_45 rfl ?_
      by_cases c5 : (I kx_reader 7) = 0
      · have h := h.1 c5
        refine ab_callV (me2 := mt_Reader_fail) (b := kx_reader) (as := [.int 2]) (st := []) (rv := none) (M2 := ((ab_up (ab_up I kx_reader 7 2) kx_reader 8 (I kx_reader 5)), L, ab_RR, n, nc, ns)) d_Reader_readNumber_46 ce_Reader_fail v_885 v_887 v_22 (by decide) rfl (Nat.le_of_ble_eq_true rfl) (cx_Reader_fail_1 2 hT c5) (Nat.le_refl _) (Nat.le_refl _) hc hs (fun j h9 => by cases h9) (fun _ _ => rfl) ?_
        show ab_E w (d + 1) mt_Reader_readNumber 49 [.ref kx_reader, .int v1, .int v2] [] ((ab_up (ab_up I kx_reader 7 2) kx_reader 8 (I kx_reader 5)), L, ab_RR, n, nc, ns) res
        refine ab_iload_n (i := 1) d_Reader_readNumber_49 rfl rfl ?_
        exact ab_iret (ty := .int) d_Reader_readNumber_50 rfl rfl h
      · have h := h.2 c5
        refine ab_callV (me2 := mt_Reader_fail) (b := kx_reader) (as := [.int 2]) (st := []) (rv := none) (M2 := (I, L, ab_RR, n, nc, ns)) d_Reader_readNumber_46 ce_Reader_fail v_885 v_887 v_22 (by decide) rfl (Nat.le_of_ble_eq_true rfl) (cx_Reader_fail_0 2 hT c5) (Nat.le_refl _) (Nat.le_refl _) hc hs (fun j h9 => by cases h9) (fun _ _ => rfl) ?_
        show ab_E w (d + 1) mt_Reader_readNumber 49 [.ref kx_reader, .int v1, .int v2] [] (I, L, ab_RR, n, nc, ns) res
        refine ab_iload_n (i := 1) d_Reader_readNumber_49 rfl rfl ?_
        exact ab_iret (ty := .int) d_Reader_readNumber_50 rfl rfl h
    · have h := h.2 c2
      refine ab_aload_n (i := 0) d_Reader_readNumber_28 rfl rfl ?_
      refine ab_getI (ci := 4) (k := 6) d_Reader_readNumber_29 v_773 rfl (by decide) (by decide) rfl ?_
      refine ab_iload_n (i := 1) d_Reader_readNumber_32 rfl rfl ?_
      refine ab_icmp_lt (tgt := 44) d_Reader_readNumber_33 (by decide) (fun c6 => ?_) (fun c6 => ?_)
      · have h := h.1 c6
        refine ab_aload_n (i := 0) d_Reader_readNumber_44 rfl rfl ?_
        refine ab_iconst (v := 2) d_Reader_readNumber_45 rfl ?_
        by_cases c9 : (I kx_reader 7) = 0
        · have h := h.1 c9
          refine ab_callV (me2 := mt_Reader_fail) (b := kx_reader) (as := [.int 2]) (st := []) (rv := none) (M2 := ((ab_up (ab_up I kx_reader 7 2) kx_reader 8 (I kx_reader 5)), L, ab_RR, n, nc, ns)) d_Reader_readNumber_46 ce_Reader_fail v_885 v_887 v_22 (by decide) rfl (Nat.le_of_ble_eq_true rfl) (cx_Reader_fail_1 2 hT c9) (Nat.le_refl _) (Nat.le_refl _) hc hs (fun j h9 => by cases h9) (fun _ _ => rfl) ?_
          show ab_E w (d + 1) mt_Reader_readNumber 49 [.ref kx_reader, .int v1, .int v2] [] ((ab_up (ab_up I kx_reader 7 2) kx_reader 8 (I kx_reader 5)), L, ab_RR, n, nc, ns) res
          refine ab_iload_n (i := 1) d_Reader_readNumber_49 rfl rfl ?_
          exact ab_iret (ty := .int) d_Reader_readNumber_50 rfl rfl h
        · have h := h.2 c9
          refine ab_callV (me2 := mt_Reader_fail) (b := kx_reader) (as := [.int 2]) (st := []) (rv := none) (M2 := (I, L, ab_RR, n, nc, ns)) d_Reader_readNumber_46 ce_Reader_fail v_885 v_887 v_22 (by decide) rfl (Nat.le_of_ble_eq_true rfl) (cx_Reader_fail_0 2 hT c9) (Nat.le_refl _) (Nat.le_refl _) hc hs (fun j h9 => by cases h9) (fun _ _ => rfl) ?_
          show ab_E w (d + 1) mt_Reader_readNumber 49 [.ref kx_reader, .int v1, .int v2] [] (I, L, ab_RR, n, nc, ns) res
          refine ab_iload_n (i := 1) d_Reader_readNumber_49 rfl rfl ?_
          exact ab_iret (ty := .int) d_Reader_readNumber_50 rfl rfl h
      · have h := h.2 c6
        refine ab_aload_n (i := 0) d_Reader_readNumber_36 rfl rfl ?_
        refine ab_getI (ci := 4) (k := 6) d_Reader_readNumber_37 v_773 rfl (by decide) (by decide) rfl ?_
        refine ab_iload_n (i := 2) d_Reader_readNumber_40 rfl rfl ?_
        refine ab_icmp_le (tgt := 51) d_Reader_readNumber_41 (by decide) (fun c10 => ?_) (fun c10 => ?_)
        · have h := h.1 c10
          refine ab_aload_n (i := 0) d_Reader_readNumber_51 rfl rfl ?_
          refine ab_getI (ci := 4) (k := 6) d_Reader_readNumber_52 v_773 rfl (by decide) (by decide) rfl ?_
          exact ab_iret (ty := .int) d_Reader_readNumber_55 rfl rfl h
        · have h := h.2 c10
          refine ab_aload_n (i := 0) d_Reader_readNumber_44 rfl rfl ?_
          refine ab_iconst (v := 2) d_Reader_readNumber_45 rfl ?_
          by_cases c13 : (I kx_reader 7) = 0
          · have h := h.1 c13
            refine ab_callV (me2 := mt_Reader_fail) (b := kx_reader) (as := [.int 2]) (st := []) (rv := none) (M2 := ((ab_up (ab_up I kx_reader 7 2) kx_reader 8 (I kx_reader 5)), L, ab_RR, n, nc, ns)) d_Reader_readNumber_46 ce_Reader_fail v_885 v_887 v_22 (by decide) rfl (Nat.le_of_ble_eq_true rfl) (cx_Reader_fail_1 2 hT c13) (Nat.le_refl _) (Nat.le_refl _) hc hs (fun j h9 => by cases h9) (fun _ _ => rfl) ?_
            show ab_E w (d + 1) mt_Reader_readNumber 49 [.ref kx_reader, .int v1, .int v2] [] ((ab_up (ab_up I kx_reader 7 2) kx_reader 8 (I kx_reader 5)), L, ab_RR, n, nc, ns) res
            refine ab_iload_n (i := 1) d_Reader_readNumber_49 rfl rfl ?_
            exact ab_iret (ty := .int) d_Reader_readNumber_50 rfl rfl h
          · have h := h.2 c13
            refine ab_callV (me2 := mt_Reader_fail) (b := kx_reader) (as := [.int 2]) (st := []) (rv := none) (M2 := (I, L, ab_RR, n, nc, ns)) d_Reader_readNumber_46 ce_Reader_fail v_885 v_887 v_22 (by decide) rfl (Nat.le_of_ble_eq_true rfl) (cx_Reader_fail_0 2 hT c13) (Nat.le_refl _) (Nat.le_refl _) hc hs (fun j h9 => by cases h9) (fun _ _ => rfl) ?_
            show ab_E w (d + 1) mt_Reader_readNumber 49 [.ref kx_reader, .int v1, .int v2] [] (I, L, ab_RR, n, nc, ns) res
            refine ab_iload_n (i := 1) d_Reader_readNumber_49 rfl rfl ?_
            exact ab_iret (ty := .int) d_Reader_readNumber_50 rfl rfl h
  · have h := h.2 c1
    refine ab_aload_n (i := 0) d_Reader_readNumber_8 rfl rfl ?_
    refine ab_iconst (v := 1) d_Reader_readNumber_9 rfl ?_
    by_cases c16 : (I kx_reader 7) = 0
    · have h := h.1 c16
      refine ab_callV (me2 := mt_Reader_fail) (b := kx_reader) (as := [.int 1]) (st := []) (rv := none) (M2 := ((ab_up (ab_up I kx_reader 7 1) kx_reader 8 (I kx_reader 5)), L, ab_RR, n, nc, ns)) d_Reader_readNumber_10 ce_Reader_fail v_885 v_887 v_22 (by decide) rfl (Nat.le_of_ble_eq_true rfl) (cx_Reader_fail_1 1 hT c16) (Nat.le_refl _) (Nat.le_refl _) hc hs (fun j h9 => by cases h9) (fun _ _ => rfl) ?_
      show ab_E w (d + 1) mt_Reader_readNumber 13 [.ref kx_reader, .int v1, .int v2] [] ((ab_up (ab_up I kx_reader 7 1) kx_reader 8 (I kx_reader 5)), L, ab_RR, n, nc, ns) res
      refine ab_iload_n (i := 1) d_Reader_readNumber_13 rfl rfl ?_
      exact ab_iret (ty := .int) d_Reader_readNumber_14 rfl rfl h
    · have h := h.2 c16
      refine ab_callV (me2 := mt_Reader_fail) (b := kx_reader) (as := [.int 1]) (st := []) (rv := none) (M2 := (I, L, ab_RR, n, nc, ns)) d_Reader_readNumber_10 ce_Reader_fail v_885 v_887 v_22 (by decide) rfl (Nat.le_of_ble_eq_true rfl) (cx_Reader_fail_0 1 hT c16) (Nat.le_refl _) (Nat.le_refl _) hc hs (fun j h9 => by cases h9) (fun _ _ => rfl) ?_
      show ab_E w (d + 1) mt_Reader_readNumber 13 [.ref kx_reader, .int v1, .int v2] [] (I, L, ab_RR, n, nc, ns) res
      refine ab_iload_n (i := 1) d_Reader_readNumber_13 rfl rfl ?_
      exact ab_iret (ty := .int) d_Reader_readNumber_14 rfl rfl h
theorem r_Reader_readSite_0 {w : ab_Wd} {d n nc ns : Nat} {I : Nat → Nat → Int32} {L : Nat → Nat → Int64} {res : ab_Re} (hT : w.1.stackTraces = false)  (hc : nc ≤ res.2.2.2.2.2.1) (hs : ns ≤ res.2.2.2.2.2.2)
    (h : ∃ (r1 : Int32) (I2 : Nat → Nat → Int32), ab_C w d mt_Reader_readNumber [.ref kx_reader, .int 0, .int 9] (I, L, ab_RR, n, nc, ns) (.inl (some (.int r1)), (I2, L, ab_RR, n, nc, ns)) ∧ ((r1 < (I2 kx_trial 0) → (res = (.inl (some (.int r1)), (I2, L, ab_RR, n, nc, ns)))) ∧ (¬ r1 < (I2 kx_trial 0) → (((I2 kx_reader 7) = 0 → (res = (.inl (some (.int r1)), ((ab_up (ab_up I2 kx_reader 7 3) kx_reader 8 (I2 kx_reader 5)), L, ab_RR, n, nc, ns)))) ∧ (¬ (I2 kx_reader 7) = 0 → (res = (.inl (some (.int r1)), (I2, L, ab_RR, n, nc, ns)))))))) : ab_E w (d + 1) mt_Reader_readSite 0 [.ref kx_reader, .null] [] (I, L, ab_RR, n, nc, ns) res := by
  refine ab_aload_n (i := 0) d_Reader_readSite_0 rfl rfl ?_
  refine ab_iconst (v := 0) d_Reader_readSite_1 rfl ?_
  refine ab_bipush (v := 9) d_Reader_readSite_2 rfl ?_
  obtain ⟨r1, I2, hC, h⟩ := h
  refine ab_callV (me2 := mt_Reader_readNumber) (b := kx_reader) (as := [.int 0, .int 9]) (st := []) (rv := (some (.int r1))) (M2 := (I2, L, ab_RR, n, nc, ns)) d_Reader_readSite_4 ce_Reader_readNumber v_889 v_891 v_23 (by decide) rfl (Nat.le_of_ble_eq_true rfl) hC (Nat.le_refl _) (Nat.le_refl _) hc hs (fun j h9 => by cases h9) (fun _ _ => rfl) ?_
  show ab_E w (d + 1) mt_Reader_readSite 7 [.ref kx_reader, .null] [.int r1] (I2, L, ab_RR, n, nc, ns) res
  refine ab_istore_n (i := 1) d_Reader_readSite_7 rfl (by decide) (Or.inr rfl) ?_
  refine ab_iload_n (i := 1) d_Reader_readSite_8 rfl rfl ?_
  refine ab_aload_n (i := 0) d_Reader_readSite_9 rfl rfl ?_
  refine ab_getR (ci := 4) (k := 2) (j := kx_trial) d_Reader_readSite_10 v_769 rfl (by decide) (by decide) rfl r_kx_reader_2 ?_
  refine ab_getI (ci := 1) (k := 0) d_Reader_readSite_13 v_189 rfl (by decide) (by decide) rfl ?_
  refine ab_icmp_lt (tgt := 24) d_Reader_readSite_16 (by decide) (fun c3 => ?_) (fun c3 => ?_)
  · have h := h.1 c3
    refine ab_iload_n (i := 1) d_Reader_readSite_24 rfl rfl ?_
    exact ab_iret (ty := .int) d_Reader_readSite_25 rfl rfl h
  · have h := h.2 c3
    refine ab_aload_n (i := 0) d_Reader_readSite_19 rfl rfl ?_
    refine ab_iconst (v := 3) d_Reader_readSite_20 rfl ?_
    by_cases c6 : (I2 kx_reader 7) = 0
    · have h := h.1 c6
      refine ab_callV (me2 := mt_Reader_fail) (b := kx_reader) (as := [.int 3]) (st := []) (rv := none) (M2 := ((ab_up (ab_up I2 kx_reader 7 3) kx_reader 8 (I2 kx_reader 5)), L, ab_RR, n, nc, ns)) d_Reader_readSite_21 ce_Reader_fail v_885 v_887 v_22 (by decide) rfl (Nat.le_of_ble_eq_true rfl) (cx_Reader_fail_1 3 hT c6) (Nat.le_refl _) (Nat.le_refl _) hc hs (fun j h9 => by cases h9) (fun _ _ => rfl) ?_
      show ab_E w (d + 1) mt_Reader_readSite 24 [.ref kx_reader, .int r1] [] ((ab_up (ab_up I2 kx_reader 7 3) kx_reader 8 (I2 kx_reader 5)), L, ab_RR, n, nc, ns) res
      refine ab_iload_n (i := 1) d_Reader_readSite_24 rfl rfl ?_
      exact ab_iret (ty := .int) d_Reader_readSite_25 rfl rfl h
    · have h := h.2 c6
      refine ab_callV (me2 := mt_Reader_fail) (b := kx_reader) (as := [.int 3]) (st := []) (rv := none) (M2 := (I2, L, ab_RR, n, nc, ns)) d_Reader_readSite_21 ce_Reader_fail v_885 v_887 v_22 (by decide) rfl (Nat.le_of_ble_eq_true rfl) (cx_Reader_fail_0 3 hT c6) (Nat.le_refl _) (Nat.le_refl _) hc hs (fun j h9 => by cases h9) (fun _ _ => rfl) ?_
      show ab_E w (d + 1) mt_Reader_readSite 24 [.ref kx_reader, .int r1] [] (I2, L, ab_RR, n, nc, ns) res
      refine ab_iload_n (i := 1) d_Reader_readSite_24 rfl rfl ?_
      exact ab_iret (ty := .int) d_Reader_readSite_25 rfl rfl h
