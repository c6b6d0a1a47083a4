theorem r_M_tellWay_0 {w : ab_Wd} {d n nc ns : Nat} {I : Nat → Nat → Int32} {L : Nat → Nat → Int64} {res : ab_Re} (hT : w.1.stackTraces = false) (v1 : Int32) (v2 : Int32) (v3 : Int32) (hc : nc ≤ res.2.2.2.2.2.1) (hs : ns ≤ res.2.2.2.2.2.2)
    (h : ab_E w (d + 1) mt_M_tellWay 3 [.ref mx, .int v1, .int v2, .int v3, .int 0, .null, .null, .null] [] (I, L, ab_RR, n, nc, ns) res) : ab_E w (d + 1) mt_M_tellWay 0 [.ref mx, .int v1, .int v2, .int v3, .null, .null, .null, .null] [] (I, L, ab_RR, n, nc, ns) res := by
  refine ab_iconst (v := 0) d_M_tellWay_0 rfl ?_
  refine ab_istore (i := 4) d_M_tellWay_1 (by decide) (Or.inr rfl) ?_
  exact h
theorem r_M_tellWay_3 {w : ab_Wd} {d n nc ns : Nat} {I : Nat → Nat → Int32} {L : Nat → Nat → Int64} {res : ab_Re} (hT : w.1.stackTraces = false) (v1 : Int32) (v2 : Int32) (v3 : Int32) (v4 : Int32) (hc : nc ≤ res.2.2.2.2.2.1) (hs : ns ≤ res.2.2.2.2.2.2)
    (h : (((I mx 2) ≤ v4 → (ab_E w (d + 1) mt_M_tellWay 50 [.ref mx, .int v1, .int v2, .int v3, .int 1, .int 0, .null, .null] [] ((ab_up I mx_open 0 v3), L, ab_RR, n, nc, ns) res)) ∧ (¬ (I mx 2) ≤ v4 → ((¬ v4 = v3 → ((vp_in v4 10) ∧ ab_E w (d + 1) mt_M_tellWay 3 [.ref mx, .int v1, .int v2, .int v3, .int (v4 + 1), .null, .null, .null] [] ((ab_up I mx_by v4.toNatClampNeg (-1)), L, ab_RR, n, nc, ns) res)) ∧ (v4 = v3 → ((vp_in v4 10) ∧ ab_E w (d + 1) mt_M_tellWay 3 [.ref mx, .int v1, .int v2, .int v3, .int (v4 + 1), .null, .null, .null] [] ((ab_up I mx_by v4.toNatClampNeg 24), L, ab_RR, n, nc, ns) res)))))) : ab_E w (d + 1) mt_M_tellWay 3 [.ref mx, .int v1, .int v2, .int v3, .int v4, .null, .null, .null] [] (I, L, ab_RR, n, nc, ns) res := by
  refine ab_iload (i := 4) d_M_tellWay_3 rfl ?_
  refine ab_aload_n (i := 0) d_M_tellWay_5 rfl rfl ?_
  refine ab_getI (ci := 11) (k := 2) d_M_tellWay_6 v_1370 rfl (by decide) (by decide) rfl ?_
  refine ab_icmp_ge (tgt := 37) d_M_tellWay_9 (by decide) (fun c1 => ?_) (fun c1 => ?_)
  · have h := h.1 c1
    refine ab_iconst (v := 1) d_M_tellWay_37 rfl ?_
    refine ab_istore (i := 4) d_M_tellWay_38 (by decide) (Or.inr rfl) ?_
    refine ab_aload_n (i := 0) d_M_tellWay_40 rfl rfl ?_
    refine ab_getR (ci := 11) (k := 25) (j := mx_open) d_M_tellWay_41 v_1393 rfl (by decide) (by decide) rfl r_mx_25 ?_
    refine ab_iconst (v := 0) d_M_tellWay_44 rfl ?_
    refine ab_iload_n (i := 3) d_M_tellWay_45 rfl rfl ?_
    refine ab_iast d_M_tellWay_46 rfl rfl (by unfold vp_in; decide) ?_
    refine ab_iconst (v := 0) d_M_tellWay_47 rfl ?_
    refine ab_istore (i := 5) d_M_tellWay_48 (by decide) (Or.inr rfl) ?_
    exact h
  · have h := h.2 c1
    refine ab_aload_n (i := 0) d_M_tellWay_12 rfl rfl ?_
    refine ab_getR (ci := 11) (k := 24) (j := mx_by) d_M_tellWay_13 v_1392 rfl (by decide) (by decide) rfl r_mx_24 ?_
    refine ab_iload (i := 4) d_M_tellWay_16 rfl ?_
    refine ab_iload (i := 4) d_M_tellWay_18 rfl ?_
    refine ab_iload_n (i := 3) d_M_tellWay_20 rfl rfl ?_
    refine ab_icmp_ne (tgt := 29) d_M_tellWay_21 (by decide) (fun c2 => ?_) (fun c2 => ?_)
    · have h := h.1 c2
      refine ab_iconst (v := (-1)) d_M_tellWay_29 rfl ?_
      have g3 := h.1; have h := h.2
      refine ab_iast d_M_tellWay_30 rfl rfl g3 ?_
      refine ab_iinc (i := 4) (v := (v4 + 1)) d_M_tellWay_31 rfl rfl (by decide) (Or.inr rfl) ?_
      refine ab_goto (tgt := 3) d_M_tellWay_34 (by decide) ?_
      exact h
    · have h := h.2 c2
      refine ab_bipush (v := 24) d_M_tellWay_24 rfl ?_
      refine ab_goto (tgt := 30) d_M_tellWay_26 (by decide) ?_
      have g4 := h.1; have h := h.2
      refine ab_iast d_M_tellWay_30 rfl rfl g4 ?_
      refine ab_iinc (i := 4) (v := (v4 + 1)) d_M_tellWay_31 rfl rfl (by decide) (Or.inr rfl) ?_
      refine ab_goto (tgt := 3) d_M_tellWay_34 (by decide) ?_
      exact h
theorem r_M_tellWay_50 {w : ab_Wd} {d n nc ns : Nat} {I : Nat → Nat → Int32} {L : Nat → Nat → Int64} {res : ab_Re} (hT : w.1.stackTraces = false) (v1 : Int32) (v2 : Int32) (v3 : Int32) (v4 : Int32) (v5 : Int32) (hc : nc ≤ res.2.2.2.2.2.1) (hs : ns ≤ res.2.2.2.2.2.2)
    (h : ((v4 ≤ v5 → ((vp_in v2 10) ∧ ((¬ (I mx_by v2.toNatClampNeg) = (-1) → (ab_E w (d + 1) mt_M_tellWay 170 [.ref mx, .int v1, .int v2, .int v3, .int v4, .int v2, .null, .null] [] ((ab_up I mx 26 0), L, ab_RR, n, nc, ns) res)) ∧ ((I mx_by v2.toNatClampNeg) = (-1) → (res = (.inl (some (.int (-1))), ((ab_up I mx 26 0), L, ab_RR, n, nc, ns))))))) ∧ (¬ v4 ≤ v5 → (ab_E w (d + 1) mt_M_tellWay 60 [.ref mx, .int v1, .int v2, .int v3, .int v4, .int v5, .int 0, .null] [] (I, L, ab_RR, n, nc, ns) res)))) : ab_E w (d + 1) mt_M_tellWay 50 [.ref mx, .int v1, .int v2, .int v3, .int v4, .int v5, .null, .null] [] (I, L, ab_RR, n, nc, ns) res := by
  refine ab_iload (i := 5) d_M_tellWay_50 rfl ?_
  refine ab_iload (i := 4) d_M_tellWay_52 rfl ?_
  refine ab_icmp_ge (tgt := 150) d_M_tellWay_54 (by decide) (fun c1 => ?_) (fun c1 => ?_)
  · have h := h.1 c1
    refine ab_aload_n (i := 0) d_M_tellWay_150 rfl rfl ?_
    refine ab_iconst (v := 0) d_M_tellWay_151 rfl ?_
    refine ab_putI (ci := 11) (k := 26) d_M_tellWay_152 v_1394 rfl (by decide) (by decide) rfl (Or.inl rfl) rfl rfl ?_
    refine ab_aload_n (i := 0) d_M_tellWay_155 rfl rfl ?_
    refine ab_getR (ci := 11) (k := 24) (j := mx_by) d_M_tellWay_156 v_1392 rfl (by decide) (by decide) rfl r_mx_24 ?_
    refine ab_iload_n (i := 2) d_M_tellWay_159 rfl rfl ?_
    have g2 := h.1; have h := h.2
    refine ab_iald d_M_tellWay_160 rfl rfl g2 ?_
    refine ab_iconst (v := (-1)) d_M_tellWay_161 rfl ?_
    refine ab_icmp_ne (tgt := 167) d_M_tellWay_162 (by decide) (fun c3 => ?_) (fun c3 => ?_)
    · have h := h.1 c3
      refine ab_iload_n (i := 2) d_M_tellWay_167 rfl rfl ?_
      refine ab_istore (i := 5) d_M_tellWay_168 (by decide) (Or.inr rfl) ?_
      exact h
    · have h := h.2 c3
      refine ab_iconst (v := (-1)) d_M_tellWay_165 rfl ?_
      exact ab_iret (ty := .int) d_M_tellWay_166 rfl rfl h
  · have h := h.2 c1
    refine ab_iconst (v := 0) d_M_tellWay_57 rfl ?_
    refine ab_istore (i := 6) d_M_tellWay_58 (by decide) (Or.inr rfl) ?_
    exact h
theorem r_M_tellWay_60 {w : ab_Wd} {d n nc ns : Nat} {I : Nat → Nat → Int32} {L : Nat → Nat → Int64} {res : ab_Re} (hT : w.1.stackTraces = false) (v1 : Int32) (v2 : Int32) (v3 : Int32) (v4 : Int32) (v5 : Int32) (v6 : Int32) (hc : nc ≤ res.2.2.2.2.2.1) (hs : ns ≤ res.2.2.2.2.2.2)
    (h : (((I mx_now 0) ≤ v6 → (ab_E w (d + 1) mt_M_tellWay 50 [.ref mx, .int v1, .int v2, .int v3, .int v4, .int (v5 + 1), .null, .null] [] (I, L, ab_RR, n, nc, ns) res)) ∧ (¬ (I mx_now 0) ≤ v6 → ((((v1 >>> (v6 &&& 31)) &&& 1) = 1 → ((vp_in v5 10) ∧ (vp_in (3 + v6) 399) ∧ (((I mx_now (3 + v6).toNatClampNeg) = (I mx_open v5.toNatClampNeg) → ((vp_in (27 + v6) 399) ∧ (((I mx_now (27 + v6).toNatClampNeg) = (-1) → (ab_E w (d + 1) mt_M_tellWay 60 [.ref mx, .int v1, .int v2, .int v3, .int v4, .int v5, .int (v6 + 1), .null] [] (I, L, ab_RR, n, nc, ns) res)) ∧ (¬ (I mx_now (27 + v6).toNatClampNeg) = (-1) → ((vp_in (I mx_now (27 + v6).toNatClampNeg) 10) ∧ (((I mx_by (I mx_now (27 + v6).toNatClampNeg).toNatClampNeg) = (-1) → ((vp_in v4 10) ∧ ab_E w (d + 1) mt_M_tellWay 60 [.ref mx, .int v1, .int v2, .int v3, .int (v4 + 1), .int v5, .int (v6 + 1), .null] [] ((ab_up (ab_up I mx_by (I mx_now (27 + v6).toNatClampNeg).toNatClampNeg v6) mx_open v4.toNatClampNeg (I mx_now (27 + v6).toNatClampNeg)), L, ab_RR, n, nc, ns) res)) ∧ (¬ (I mx_by (I mx_now (27 + v6).toNatClampNeg).toNatClampNeg) = (-1) → (ab_E w (d + 1) mt_M_tellWay 60 [.ref mx, .int v1, .int v2, .int v3, .int v4, .int v5, .int (v6 + 1), .null] [] (I, L, ab_RR, n, nc, ns) res)))))))) ∧ (¬ (I mx_now (3 + v6).toNatClampNeg) = (I mx_open v5.toNatClampNeg) → ((vp_in (27 + v6) 399) ∧ (((I mx_now (27 + v6).toNatClampNeg) = (I mx_open v5.toNatClampNeg) → (((I mx_now (3 + v6).toNatClampNeg) = (-1) → (ab_E w (d + 1) mt_M_tellWay 60 [.ref mx, .int v1, .int v2, .int v3, .int v4, .int v5, .int (v6 + 1), .null] [] (I, L, ab_RR, n, nc, ns) res)) ∧ (¬ (I mx_now (3 + v6).toNatClampNeg) = (-1) → ((vp_in (I mx_now (3 + v6).toNatClampNeg) 10) ∧ (((I mx_by (I mx_now (3 + v6).toNatClampNeg).toNatClampNeg) = (-1) → ((vp_in v4 10) ∧ ab_E w (d + 1) mt_M_tellWay 60 [.ref mx, .int v1, .int v2, .int v3, .int (v4 + 1), .int v5, .int (v6 + 1), .null] [] ((ab_up (ab_up I mx_by (I mx_now (3 + v6).toNatClampNeg).toNatClampNeg v6) mx_open v4.toNatClampNeg (I mx_now (3 + v6).toNatClampNeg)), L, ab_RR, n, nc, ns) res)) ∧ (¬ (I mx_by (I mx_now (3 + v6).toNatClampNeg).toNatClampNeg) = (-1) → (ab_E w (d + 1) mt_M_tellWay 60 [.ref mx, .int v1, .int v2, .int v3, .int v4, .int v5, .int (v6 + 1), .null] [] (I, L, ab_RR, n, nc, ns) res))))))) ∧ (¬ (I mx_now (27 + v6).toNatClampNeg) = (I mx_open v5.toNatClampNeg) → (ab_E w (d + 1) mt_M_tellWay 60 [.ref mx, .int v1, .int v2, .int v3, .int v4, .int v5, .int (v6 + 1), .null] [] (I, L, ab_RR, n, nc, ns) res)))))))) ∧ (¬ ((v1 >>> (v6 &&& 31)) &&& 1) = 1 → (ab_E w (d + 1) mt_M_tellWay 60 [.ref mx, .int v1, .int v2, .int v3, .int v4, .int v5, .int (v6 + 1), .null] [] (I, L, ab_RR, n, nc, ns) res)))))) : ab_E w (d + 1) mt_M_tellWay 60 [.ref mx, .int v1, .int v2, .int v3, .int v4, .int v5, .int v6, .null] [] (I, L, ab_RR, n, nc, ns) res := by
  refine ab_iload (i := 6) d_M_tellWay_60 rfl ?_
  refine ab_aload_n (i := 0) d_M_tellWay_62 rfl rfl ?_
  refine ab_callV (me2 := mt_M_many) (b := mx) (as := []) (st := [.int v6]) (rv := (some (.int (I mx_now 0)))) (M2 := (I, L, ab_RR, n, nc, ns)) d_M_tellWay_63 ce_M_many v_1635 v_1637 v_79 (by decide) rfl (Nat.le_of_ble_eq_true rfl) (cx_M_many_0  hT (show (vp_in 0 399) from by unfold vp_in; decide)) (Nat.le_refl _) (Nat.le_refl _) hc hs (fun j h9 => by cases h9) (fun _ _ => rfl) ?_
  show ab_E w (d + 1) mt_M_tellWay 66 [.ref mx, .int v1, .int v2, .int v3, .int v4, .int v5, .int v6, .null] [.int (I mx_now 0), .int v6] (I, L, ab_RR, n, nc, ns) res
  refine ab_icmp_ge (tgt := 144) d_M_tellWay_66 (by decide) (fun c2 => ?_) (fun c2 => ?_)
  · have h := h.1 c2
    refine ab_iinc (i := 5) (v := (v5 + 1)) d_M_tellWay_144 rfl rfl (by decide) (Or.inr rfl) ?_
    refine ab_goto (tgt := 50) d_M_tellWay_147 (by decide) ?_
    refine ab_drop 6 ?_
    exact h
  · have h := h.2 c2
    refine ab_iload_n (i := 1) d_M_tellWay_69 rfl rfl ?_
    refine ab_iload (i := 6) d_M_tellWay_70 rfl ?_
    by_cases c4 : ((v1 >>> (v6 &&& 31)) &&& 1) = 1
    · have h := h.1 c4
      refine ab_callS (me2 := mt_M_has) (as := [.int v1, .int v6]) (st := []) (rv := (some (.int 1))) (M2 := (I, L, ab_RR, n, nc, ns)) d_M_tellWay_72 ce_M_has ⟨v_1648, Or.inl v_1647⟩ (Nat.le_of_ble_eq_true rfl) (cx_M_has_1 v1 v6 hT c4) (Nat.le_refl _) (Nat.le_refl _) hc hs (fun j h9 => by cases h9) (fun _ _ => rfl) ?_
      show ab_E w (d + 1) mt_M_tellWay 75 [.ref mx, .int v1, .int v2, .int v3, .int v4, .int v5, .int v6, .null] [.int 1] (I, L, ab_RR, n, nc, ns) res
      refine ab_if_eq (tgt := 94) d_M_tellWay_75 (by decide) (fun c9 => absurd c9 (show ¬ (1 : Int32) = 0 from by decide)) (fun _ => ?_)
      refine ab_aload_n (i := 0) d_M_tellWay_78 rfl rfl ?_
      refine ab_iload (i := 6) d_M_tellWay_79 rfl ?_
      refine ab_aload_n (i := 0) d_M_tellWay_81 rfl rfl ?_
      refine ab_getR (ci := 11) (k := 25) (j := mx_open) d_M_tellWay_82 v_1393 rfl (by decide) (by decide) rfl r_mx_25 ?_
      refine ab_iload (i := 5) d_M_tellWay_85 rfl ?_
      have g5 := h.1; have h := h.2
      refine ab_iald d_M_tellWay_87 rfl rfl g5 ?_
      have g7 := h.1; have h := h.2
      by_cases c8 : (I mx_now (3 + v6).toNatClampNeg) = (I mx_open v5.toNatClampNeg)
      · have h := h.1 c8
        have g9 := h.1; have h := h.2
        refine ab_callV (me2 := mt_M_otherEnd) (b := mx) (as := [.int v6, .int (I mx_open v5.toNatClampNeg)]) (st := []) (rv := (some (.int (I mx_now (27 + v6).toNatClampNeg)))) (M2 := (I, L, ab_RR, n, nc, ns)) d_M_tellWay_88 ce_M_otherEnd v_1691 v_1693 v_92 (by decide) rfl (Nat.le_of_ble_eq_true rfl) (cx_M_otherEnd_2 v6 (I mx_open v5.toNatClampNeg) hT g7 c8 g9) (Nat.le_refl _) (Nat.le_refl _) hc hs (fun j h9 => by cases h9) (fun _ _ => rfl) ?_
        show ab_E w (d + 1) mt_M_tellWay 91 [.ref mx, .int v1, .int v2, .int v3, .int v4, .int v5, .int v6, .null] [.int (I mx_now (27 + v6).toNatClampNeg)] (I, L, ab_RR, n, nc, ns) res
        refine ab_goto (tgt := 95) d_M_tellWay_91 (by decide) ?_
        refine ab_istore (i := 7) d_M_tellWay_95 (by decide) (Or.inr rfl) ?_
        refine ab_iload (i := 7) d_M_tellWay_97 rfl ?_
        refine ab_iconst (v := (-1)) d_M_tellWay_99 rfl ?_
        refine ab_icmp_eq (tgt := 138) d_M_tellWay_100 (by decide) (fun c10 => ?_) (fun c10 => ?_)
        · have h := h.1 c10
          refine ab_iinc (i := 6) (v := (v6 + 1)) d_M_tellWay_138 rfl rfl (by decide) (Or.inr rfl) ?_
          refine ab_goto (tgt := 60) d_M_tellWay_141 (by decide) ?_
          refine ab_drop 7 ?_
          exact h
        · have h := h.2 c10
          refine ab_aload_n (i := 0) d_M_tellWay_103 rfl rfl ?_
          refine ab_getR (ci := 11) (k := 24) (j := mx_by) d_M_tellWay_104 v_1392 rfl (by decide) (by decide) rfl r_mx_24 ?_
          refine ab_iload (i := 7) d_M_tellWay_107 rfl ?_
          have g11 := h.1; have h := h.2
          refine ab_iald d_M_tellWay_109 rfl rfl g11 ?_
          refine ab_iconst (v := (-1)) d_M_tellWay_110 rfl ?_
          refine ab_icmp_eq (tgt := 117) d_M_tellWay_111 (by decide) (fun c12 => ?_) (fun c12 => ?_)
          · have h := h.1 c12
            refine ab_aload_n (i := 0) d_M_tellWay_117 rfl rfl ?_
            refine ab_getR (ci := 11) (k := 24) (j := mx_by) d_M_tellWay_118 v_1392 rfl (by decide) (by decide) rfl r_mx_24 ?_
            refine ab_iload (i := 7) d_M_tellWay_121 rfl ?_
            refine ab_iload (i := 6) d_M_tellWay_123 rfl ?_
            refine ab_iast d_M_tellWay_125 rfl rfl g11 ?_
            refine ab_aload_n (i := 0) d_M_tellWay_126 rfl rfl ?_
            refine ab_getR (ci := 11) (k := 25) (j := mx_open) d_M_tellWay_127 v_1393 rfl (by decide) (by decide) rfl r_mx_25 ?_
            refine ab_iload (i := 4) d_M_tellWay_130 rfl ?_
            refine ab_iload (i := 7) d_M_tellWay_132 rfl ?_
            have g13 := h.1; have h := h.2
            refine ab_iast d_M_tellWay_134 rfl rfl g13 ?_
            refine ab_iinc (i := 4) (v := (v4 + 1)) d_M_tellWay_135 rfl rfl (by decide) (Or.inr rfl) ?_
            refine ab_iinc (i := 6) (v := (v6 + 1)) d_M_tellWay_138 rfl rfl (by decide) (Or.inr rfl) ?_
            refine ab_goto (tgt := 60) d_M_tellWay_141 (by decide) ?_
            refine ab_drop 7 ?_
            exact h
          · have h := h.2 c12
            refine ab_goto (tgt := 138) d_M_tellWay_114 (by decide) ?_
            refine ab_iinc (i := 6) (v := (v6 + 1)) d_M_tellWay_138 rfl rfl (by decide) (Or.inr rfl) ?_
            refine ab_goto (tgt := 60) d_M_tellWay_141 (by decide) ?_
            refine ab_drop 7 ?_
            exact h
      · have h := h.2 c8
        have g14 := h.1; have h := h.2
        by_cases c15 : (I mx_now (27 + v6).toNatClampNeg) = (I mx_open v5.toNatClampNeg)
        · have h := h.1 c15
          refine ab_callV (me2 := mt_M_otherEnd) (b := mx) (as := [.int v6, .int (I mx_open v5.toNatClampNeg)]) (st := []) (rv := (some (.int (I mx_now (3 + v6).toNatClampNeg)))) (M2 := (I, L, ab_RR, n, nc, ns)) d_M_tellWay_88 ce_M_otherEnd v_1691 v_1693 v_92 (by decide) rfl (Nat.le_of_ble_eq_true rfl) (cx_M_otherEnd_1 v6 (I mx_open v5.toNatClampNeg) hT g7 c8 g14 c15 g7) (Nat.le_refl _) (Nat.le_refl _) hc hs (fun j h9 => by cases h9) (fun _ _ => rfl) ?_
          show ab_E w (d + 1) mt_M_tellWay 91 [.ref mx, .int v1, .int v2, .int v3, .int v4, .int v5, .int v6, .null] [.int (I mx_now (3 + v6).toNatClampNeg)] (I, L, ab_RR, n, nc, ns) res
          refine ab_goto (tgt := 95) d_M_tellWay_91 (by decide) ?_
          refine ab_istore (i := 7) d_M_tellWay_95 (by decide) (Or.inr rfl) ?_
          refine ab_iload (i := 7) d_M_tellWay_97 rfl ?_
          refine ab_iconst (v := (-1)) d_M_tellWay_99 rfl ?_
          refine ab_icmp_eq (tgt := 138) d_M_tellWay_100 (by decide) (fun c16 => ?_) (fun c16 => ?_)
          · have h := h.1 c16
            refine ab_iinc (i := 6) (v := (v6 + 1)) d_M_tellWay_138 rfl rfl (by decide) (Or.inr rfl) ?_
            refine ab_goto (tgt := 60) d_M_tellWay_141 (by decide) ?_
            refine ab_drop 7 ?_
            exact h
          · have h := h.2 c16
            refine ab_aload_n (i := 0) d_M_tellWay_103 rfl rfl ?_
            refine ab_getR (ci := 11) (k := 24) (j := mx_by) d_M_tellWay_104 v_1392 rfl (by decide) (by decide) rfl r_mx_24 ?_
            refine ab_iload (i := 7) d_M_tellWay_107 rfl ?_
            have g17 := h.1; have h := h.2
            refine ab_iald d_M_tellWay_109 rfl rfl g17 ?_
            refine ab_iconst (v := (-1)) d_M_tellWay_110 rfl ?_
            refine ab_icmp_eq (tgt := 117) d_M_tellWay_111 (by decide) (fun c18 => ?_) (fun c18 => ?_)
            · have h := h.1 c18
              refine ab_aload_n (i := 0) d_M_tellWay_117 rfl rfl ?_
              refine ab_getR (ci := 11) (k := 24) (j := mx_by) d_M_tellWay_118 v_1392 rfl (by decide) (by decide) rfl r_mx_24 ?_
              refine ab_iload (i := 7) d_M_tellWay_121 rfl ?_
              refine ab_iload (i := 6) d_M_tellWay_123 rfl ?_
              refine ab_iast d_M_tellWay_125 rfl rfl g17 ?_
              refine ab_aload_n (i := 0) d_M_tellWay_126 rfl rfl ?_
              refine ab_getR (ci := 11) (k := 25) (j := mx_open) d_M_tellWay_127 v_1393 rfl (by decide) (by decide) rfl r_mx_25 ?_
              refine ab_iload (i := 4) d_M_tellWay_130 rfl ?_
              refine ab_iload (i := 7) d_M_tellWay_132 rfl ?_
              have g19 := h.1; have h := h.2
              refine ab_iast d_M_tellWay_134 rfl rfl g19 ?_
              refine ab_iinc (i := 4) (v := (v4 + 1)) d_M_tellWay_135 rfl rfl (by decide) (Or.inr rfl) ?_
              refine ab_iinc (i := 6) (v := (v6 + 1)) d_M_tellWay_138 rfl rfl (by decide) (Or.inr rfl) ?_
              refine ab_goto (tgt := 60) d_M_tellWay_141 (by decide) ?_
              refine ab_drop 7 ?_
              exact h
            · have h := h.2 c18
              refine ab_goto (tgt := 138) d_M_tellWay_114 (by decide) ?_
              refine ab_iinc (i := 6) (v := (v6 + 1)) d_M_tellWay_138 rfl rfl (by decide) (Or.inr rfl) ?_
              refine ab_goto (tgt := 60) d_M_tellWay_141 (by decide) ?_
              refine ab_drop 7 ?_
              exact h
        · have h := h.2 c15
          refine ab_callV (me2 := mt_M_otherEnd) (b := mx) (as := [.int v6, .int (I mx_open v5.toNatClampNeg)]) (st := []) (rv := (some (.int (-1)))) (M2 := (I, L, ab_RR, n, nc, ns)) d_M_tellWay_88 ce_M_otherEnd v_1691 v_1693 v_92 (by decide) rfl (Nat.le_of_ble_eq_true rfl) (cx_M_otherEnd_0 v6 (I mx_open v5.toNatClampNeg) hT g7 c8 g14 c15) (Nat.le_refl _) (Nat.le_refl _) hc hs (fun j h9 => by cases h9) (fun _ _ => rfl) ?_
          show ab_E w (d + 1) mt_M_tellWay 91 [.ref mx, .int v1, .int v2, .int v3, .int v4, .int v5, .int v6, .null] [.int (-1)] (I, L, ab_RR, n, nc, ns) res
          refine ab_goto (tgt := 95) d_M_tellWay_91 (by decide) ?_
          refine ab_istore (i := 7) d_M_tellWay_95 (by decide) (Or.inr rfl) ?_
          refine ab_iload (i := 7) d_M_tellWay_97 rfl ?_
          refine ab_iconst (v := (-1)) d_M_tellWay_99 rfl ?_
          refine ab_icmp_eq (tgt := 138) d_M_tellWay_100 (by decide) (fun _ => ?_) (fun c9 => absurd (show ((-1) : Int32) = (-1) from by decide) c9)
          refine ab_iinc (i := 6) (v := (v6 + 1)) d_M_tellWay_138 rfl rfl (by decide) (Or.inr rfl) ?_
          refine ab_goto (tgt := 60) d_M_tellWay_141 (by decide) ?_
          refine ab_drop 7 ?_
          exact h
    · have h := h.2 c4
      refine ab_callS (me2 := mt_M_has) (as := [.int v1, .int v6]) (st := []) (rv := (some (.int 0))) (M2 := (I, L, ab_RR, n, nc, ns)) d_M_tellWay_72 ce_M_has ⟨v_1648, Or.inl v_1647⟩ (Nat.le_of_ble_eq_true rfl) (cx_M_has_0 v1 v6 hT c4) (Nat.le_refl _) (Nat.le_refl _) hc hs (fun j h9 => by cases h9) (fun _ _ => rfl) ?_
      show ab_E w (d + 1) mt_M_tellWay 75 [.ref mx, .int v1, .int v2, .int v3, .int v4, .int v5, .int v6, .null] [.int 0] (I, L, ab_RR, n, nc, ns) res
      refine ab_if_eq (tgt := 94) d_M_tellWay_75 (by decide) (fun _ => ?_) (fun c9 => absurd (show (0 : Int32) = 0 from by decide) c9)
      refine ab_iconst (v := (-1)) d_M_tellWay_94 rfl ?_
      refine ab_istore (i := 7) d_M_tellWay_95 (by decide) (Or.inr rfl) ?_
      refine ab_iload (i := 7) d_M_tellWay_97 rfl ?_
      refine ab_iconst (v := (-1)) d_M_tellWay_99 rfl ?_
      refine ab_icmp_eq (tgt := 138) d_M_tellWay_100 (by decide) (fun _ => ?_) (fun c9 => absurd (show ((-1) : Int32) = (-1) from by decide) c9)
      refine ab_iinc (i := 6) (v := (v6 + 1)) d_M_tellWay_138 rfl rfl (by decide) (Or.inr rfl) ?_
      refine ab_goto (tgt := 60) d_M_tellWay_141 (by decide) ?_
      refine ab_drop 7 ?_
      exact h
theorem r_M_tellWay_170 {w : ab_Wd} {d n nc ns : Nat} {I : Nat → Nat → Int32} {L : Nat → Nat → Int64} {res : ab_Re} (hT : w.1.stackTraces = false) (v1 : Int32) (v2 : Int32) (v3 : Int32) (v4 : Int32) (v5 : Int32) (hc : nc ≤ res.2.2.2.2.2.1) (hs : ns ≤ res.2.2.2.2.2.2)
    (h : ((v5 = v3 → (res = (.inl (some (.int (I mx 26))), (I, L, ab_RR, n, nc, ns)))) ∧ (¬ v5 = v3 → ((vp_in v5 10) ∧ (vp_in (I mx 26) 10) ∧ (vp_in (((I mx 26) + 1) - 1) 10) ∧ (vp_in (3 + ((ab_up (ab_up I mx_way (I mx 26).toNatClampNeg (I mx_by v5.toNatClampNeg)) mx 26 ((I mx 26) + 1)) mx_way (((I mx 26) + 1) - 1).toNatClampNeg)) 399) ∧ (((I mx_now (3 + ((ab_up (ab_up I mx_way (I mx 26).toNatClampNeg (I mx_by v5.toNatClampNeg)) mx 26 ((I mx 26) + 1)) mx_way (((I mx 26) + 1) - 1).toNatClampNeg)).toNatClampNeg) = v5 → ((vp_in (27 + ((ab_up (ab_up I mx_way (I mx 26).toNatClampNeg (I mx_by v5.toNatClampNeg)) mx 26 ((I mx 26) + 1)) mx_way (((I mx 26) + 1) - 1).toNatClampNeg)) 399) ∧ ab_E w (d + 1) mt_M_tellWay 170 [.ref mx, .int v1, .int v2, .int v3, .int v4, .int (I mx_now (27 + ((ab_up (ab_up I mx_way (I mx 26).toNatClampNeg (I mx_by v5.toNatClampNeg)) mx 26 ((I mx 26) + 1)) mx_way (((I mx 26) + 1) - 1).toNatClampNeg)).toNatClampNeg), .null, .null] [] ((ab_up (ab_up I mx_way (I mx 26).toNatClampNeg (I mx_by v5.toNatClampNeg)) mx 26 ((I mx 26) + 1)), L, ab_RR, n, nc, ns) res)) ∧ (¬ (I mx_now (3 + ((ab_up (ab_up I mx_way (I mx 26).toNatClampNeg (I mx_by v5.toNatClampNeg)) mx 26 ((I mx 26) + 1)) mx_way (((I mx 26) + 1) - 1).toNatClampNeg)).toNatClampNeg) = v5 → ((vp_in (27 + ((ab_up (ab_up I mx_way (I mx 26).toNatClampNeg (I mx_by v5.toNatClampNeg)) mx 26 ((I mx 26) + 1)) mx_way (((I mx 26) + 1) - 1).toNatClampNeg)) 399) ∧ (((I mx_now (27 + ((ab_up (ab_up I mx_way (I mx 26).toNatClampNeg (I mx_by v5.toNatClampNeg)) mx 26 ((I mx 26) + 1)) mx_way (((I mx 26) + 1) - 1).toNatClampNeg)).toNatClampNeg) = v5 → (ab_E w (d + 1) mt_M_tellWay 170 [.ref mx, .int v1, .int v2, .int v3, .int v4, .int (I mx_now (3 + ((ab_up (ab_up I mx_way (I mx 26).toNatClampNeg (I mx_by v5.toNatClampNeg)) mx 26 ((I mx 26) + 1)) mx_way (((I mx 26) + 1) - 1).toNatClampNeg)).toNatClampNeg), .null, .null] [] ((ab_up (ab_up I mx_way (I mx 26).toNatClampNeg (I mx_by v5.toNatClampNeg)) mx 26 ((I mx 26) + 1)), L, ab_RR, n, nc, ns) res)) ∧ (¬ (I mx_now (27 + ((ab_up (ab_up I mx_way (I mx 26).toNatClampNeg (I mx_by v5.toNatClampNeg)) mx 26 ((I mx 26) + 1)) mx_way (((I mx 26) + 1) - 1).toNatClampNeg)).toNatClampNeg) = v5 → (ab_E w (d + 1) mt_M_tellWay 170 [.ref mx, .int v1, .int v2, .int v3, .int v4, .int (-1), .null, .null] [] ((ab_up (ab_up I mx_way (I mx 26).toNatClampNeg (I mx_by v5.toNatClampNeg)) mx 26 ((I mx 26) + 1)), L, ab_RR, n, nc, ns) res)))))))))) : ab_E w (d + 1) mt_M_tellWay 170 [.ref mx, .int v1, .int v2, .int v3, .int v4, .int v5, .null, .null] [] (I, L, ab_RR, n, nc, ns) res := by
  refine ab_iload (i := 5) d_M_tellWay_170 rfl ?_
  refine ab_iload_n (i := 3) d_M_tellWay_172 rfl rfl ?_
  refine ab_icmp_eq (tgt := 224) d_M_tellWay_173 (by decide) (fun c1 => ?_) (fun c1 => ?_)
  · have h := h.1 c1
    refine ab_aload_n (i := 0) d_M_tellWay_224 rfl rfl ?_
    refine ab_getI (ci := 11) (k := 26) d_M_tellWay_225 v_1394 rfl (by decide) (by decide) rfl ?_
    exact ab_iret (ty := .int) d_M_tellWay_228 rfl rfl h
  · have h := h.2 c1
    refine ab_aload_n (i := 0) d_M_tellWay_176 rfl rfl ?_
    refine ab_getR (ci := 11) (k := 23) (j := mx_way) d_M_tellWay_177 v_1391 rfl (by decide) (by decide) rfl r_mx_23 ?_
    refine ab_aload_n (i := 0) d_M_tellWay_180 rfl rfl ?_
    refine ab_getI (ci := 11) (k := 26) d_M_tellWay_181 v_1394 rfl (by decide) (by decide) rfl ?_
    refine ab_aload_n (i := 0) d_M_tellWay_184 rfl rfl ?_
    refine ab_getR (ci := 11) (k := 24) (j := mx_by) d_M_tellWay_185 v_1392 rfl (by decide) (by decide) rfl r_mx_24 ?_
    refine ab_iload (i := 5) d_M_tellWay_188 rfl ?_
    have g2 := h.1; have h := h.2
    refine ab_iald d_M_tellWay_190 rfl rfl g2 ?_
    have g3 := h.1; have h := h.2
    refine ab_iast d_M_tellWay_191 rfl rfl g3 ?_
    refine ab_aload_n (i := 0) d_M_tellWay_192 rfl rfl ?_
    refine ab_dupr d_M_tellWay_193 ?_
    refine ab_getI (ci := 11) (k := 26) d_M_tellWay_194 v_1394 rfl (by decide) (by decide) rfl ?_
    refine ab_iconst (v := 1) d_M_tellWay_197 rfl ?_
    refine ab_iadd d_M_tellWay_198 ?_
    refine ab_putI (ci := 11) (k := 26) d_M_tellWay_199 v_1394 rfl (by decide) (by decide) rfl (Or.inl rfl) rfl rfl ?_
    refine ab_aload_n (i := 0) d_M_tellWay_202 rfl rfl ?_
    refine ab_aload_n (i := 0) d_M_tellWay_203 rfl rfl ?_
    refine ab_getR (ci := 11) (k := 23) (j := mx_way) d_M_tellWay_204 v_1391 rfl (by decide) (by decide) rfl r_mx_23 ?_
    refine ab_aload_n (i := 0) d_M_tellWay_207 rfl rfl ?_
    refine ab_getI (ci := 11) (k := 26) d_M_tellWay_208 v_1394 rfl (by decide) (by decide) rfl ?_
    refine ab_iconst (v := 1) d_M_tellWay_211 rfl ?_
    refine ab_isub d_M_tellWay_212 ?_
    have g4 := h.1; have h := h.2
    refine ab_iald d_M_tellWay_213 rfl rfl g4 ?_
    refine ab_iload (i := 5) d_M_tellWay_214 rfl ?_
    have g6 := h.1; have h := h.2
    by_cases c7 : (I mx_now (3 + ((ab_up (ab_up I mx_way (I mx 26).toNatClampNeg (I mx_by v5.toNatClampNeg)) mx 26 ((I mx 26) + 1)) mx_way (((I mx 26) + 1) - 1).toNatClampNeg)).toNatClampNeg) = v5
    · have h := h.1 c7
      have g8 := h.1; have h := h.2
      refine ab_callV (me2 := mt_M_otherEnd) (b := mx) (as := [.int ((ab_up (ab_up I mx_way (I mx 26).toNatClampNeg (I mx_by v5.toNatClampNeg)) mx 26 ((I mx 26) + 1)) mx_way (((I mx 26) + 1) - 1).toNatClampNeg), .int v5]) (st := []) (rv := (some (.int (I mx_now (27 + ((ab_up (ab_up I mx_way (I mx 26).toNatClampNeg (I mx_by v5.toNatClampNeg)) mx 26 ((I mx 26) + 1)) mx_way (((I mx 26) + 1) - 1).toNatClampNeg)).toNatClampNeg)))) (M2 := ((ab_up (ab_up I mx_way (I mx 26).toNatClampNeg (I mx_by v5.toNatClampNeg)) mx 26 ((I mx 26) + 1)), L, ab_RR, n, nc, ns)) d_M_tellWay_216 ce_M_otherEnd v_1691 v_1693 v_92 (by decide) rfl (Nat.le_of_ble_eq_true rfl) (cx_M_otherEnd_2 ((ab_up (ab_up I mx_way (I mx 26).toNatClampNeg (I mx_by v5.toNatClampNeg)) mx 26 ((I mx 26) + 1)) mx_way (((I mx 26) + 1) - 1).toNatClampNeg) v5 hT g6 c7 g8) (Nat.le_refl _) (Nat.le_refl _) hc hs (fun j h9 => by cases h9) (fun _ _ => rfl) ?_
      show ab_E w (d + 1) mt_M_tellWay 219 [.ref mx, .int v1, .int v2, .int v3, .int v4, .int v5, .null, .null] [.int (I mx_now (27 + ((ab_up (ab_up I mx_way (I mx 26).toNatClampNeg (I mx_by v5.toNatClampNeg)) mx 26 ((I mx 26) + 1)) mx_way (((I mx 26) + 1) - 1).toNatClampNeg)).toNatClampNeg)] ((ab_up (ab_up I mx_way (I mx 26).toNatClampNeg (I mx_by v5.toNatClampNeg)) mx 26 ((I mx 26) + 1)), L, ab_RR, n, nc, ns) res
      refine ab_istore (i := 5) d_M_tellWay_219 (by decide) (Or.inr rfl) ?_
      refine ab_goto (tgt := 170) d_M_tellWay_221 (by decide) ?_
      exact h
    · have h := h.2 c7
      have g9 := h.1; have h := h.2
      by_cases c10 : (I mx_now (27 + ((ab_up (ab_up I mx_way (I mx 26).toNatClampNeg (I mx_by v5.toNatClampNeg)) mx 26 ((I mx 26) + 1)) mx_way (((I mx 26) + 1) - 1).toNatClampNeg)).toNatClampNeg) = v5
      · have h := h.1 c10
        refine ab_callV (me2 := mt_M_otherEnd) (b := mx) (as := [.int ((ab_up (ab_up I mx_way (I mx 26).toNatClampNeg (I mx_by v5.toNatClampNeg)) mx 26 ((I mx 26) + 1)) mx_way (((I mx 26) + 1) - 1).toNatClampNeg), .int v5]) (st := []) (rv := (some (.int (I mx_now (3 + ((ab_up (ab_up I mx_way (I mx 26).toNatClampNeg (I mx_by v5.toNatClampNeg)) mx 26 ((I mx 26) + 1)) mx_way (((I mx 26) + 1) - 1).toNatClampNeg)).toNatClampNeg)))) (M2 := ((ab_up (ab_up I mx_way (I mx 26).toNatClampNeg (I mx_by v5.toNatClampNeg)) mx 26 ((I mx 26) + 1)), L, ab_RR, n, nc, ns)) d_M_tellWay_216 ce_M_otherEnd v_1691 v_1693 v_92 (by decide) rfl (Nat.le_of_ble_eq_true rfl) (cx_M_otherEnd_1 ((ab_up (ab_up I mx_way (I mx 26).toNatClampNeg (I mx_by v5.toNatClampNeg)) mx 26 ((I mx 26) + 1)) mx_way (((I mx 26) + 1) - 1).toNatClampNeg) v5 hT g6 c7 g9 c10 g6) (Nat.le_refl _) (Nat.le_refl _) hc hs (fun j h9 => by cases h9) (fun _ _ => rfl) ?_
        show ab_E w (d + 1) mt_M_tellWay 219 [.ref mx, .int v1, .int v2, .int v3, .int v4, .int v5, .null, .null] [.int (I mx_now (3 + ((ab_up (ab_up I mx_way (I mx 26).toNatClampNeg (I mx_by v5.toNatClampNeg)) mx 26 ((I mx 26) + 1)) mx_way (((I mx 26) + 1) - 1).toNatClampNeg)).toNatClampNeg)] ((ab_up (ab_up I mx_way (I mx 26).toNatClampNeg (I mx_by v5.toNatClampNeg)) mx 26 ((I mx 26) + 1)), L, ab_RR, n, nc, ns) res
        refine ab_istore (i := 5) d_M_tellWay_219 (by decide) (Or.inr rfl) ?_
        refine ab_goto (tgt := 170) d_M_tellWay_221 (by decide) ?_
        exact h
      · have h := h.2 c10
        refine ab_callV (me2 := mt_M_otherEnd) (b := mx) (as := [.int ((ab_up (ab_up I mx_way (I mx 26).toNatClampNeg (I mx_by v5.toNatClampNeg)) mx 26 ((I mx 26) + 1)) mx_way (((I mx 26) + 1) - 1).toNatClampNeg), .int v5]) (st := []) (rv := (some (.int (-1)))) (M2 := ((ab_up (ab_up I mx_way (I mx 26).toNatClampNeg (I mx_by v5.toNatClampNeg)) mx 26 ((I mx 26) + 1)), L, ab_RR, n, nc, ns)) d_M_tellWay_216 ce_M_otherEnd v_1691 v_1693 v_92 (by decide) rfl (Nat.le_of_ble_eq_true rfl) (cx_M_otherEnd_0 ((ab_up (ab_up I mx_way (I mx 26).toNatClampNeg (I mx_by v5.toNatClampNeg)) mx 26 ((I mx 26) + 1)) mx_way (((I mx 26) + 1) - 1).toNatClampNeg) v5 hT g6 c7 g9 c10) (Nat.le_refl _) (Nat.le_refl _) hc hs (fun j h9 => by cases h9) (fun _ _ => rfl) ?_
        show ab_E w (d + 1) mt_M_tellWay 219 [.ref mx, .int v1, .int v2, .int v3, .int v4, .int v5, .null, .null] [.int (-1)] ((ab_up (ab_up I mx_way (I mx 26).toNatClampNeg (I mx_by v5.toNatClampNeg)) mx 26 ((I mx 26) + 1)), L, ab_RR, n, nc, ns) res
        refine ab_istore (i := 5) d_M_tellWay_219 (by decide) (Or.inr rfl) ?_
        refine ab_goto (tgt := 170) d_M_tellWay_221 (by decide) ?_
        exact h
theorem r_M_dearestOnWay_0 {w : ab_Wd} {d n nc ns : Nat} {I : Nat → Nat → Int32} {L : Nat → Nat → Int64} {res : ab_Re} (hT : w.1.stackTraces = false)  (hc : nc ≤ res.2.2.2.2.2.1) (hs : ns ≤ res.2.2.2.2.2.2)
    (h : ab_E w (d + 2) mt_M_dearestOnWay 4 [.ref mx, .int (-1), .int 0] [] (I, L, ab_RR, n, nc, ns) res) : ab_E w (d + 2) mt_M_dearestOnWay 0 [.ref mx, .null, .null] [] (I, L, ab_RR, n, nc, ns) res := by
  refine ab_iconst (v := (-1)) d_M_dearestOnWay_0 rfl ?_
  refine ab_istore_n (i := 1) d_M_dearestOnWay_1 rfl (by decide) (Or.inr rfl) ?_
  refine ab_iconst (v := 0) d_M_dearestOnWay_2 rfl ?_
  refine ab_istore_n (i := 2) d_M_dearestOnWay_3 rfl (by decide) (Or.inr rfl) ?_
  exact h
theorem r_M_dearestOnWay_4 {w : ab_Wd} {d n nc ns : Nat} {I : Nat → Nat → Int32} {L : Nat → Nat → Int64} {res : ab_Re} (hT : w.1.stackTraces = false) (v1 : Int32) (v2 : Int32) (hc : nc ≤ res.2.2.2.2.2.1) (hs : ns ≤ res.2.2.2.2.2.2)
    (h : (((I mx 26) ≤ v2 → (res = (.inl (some (.int v1)), (I, L, ab_RR, n, nc, ns)))) ∧ (¬ (I mx 26) ≤ v2 → ((v1 = (-1) → ((vp_in v2 10) ∧ ab_E w (d + 2) mt_M_dearestOnWay 4 [.ref mx, .int (I mx_way v2.toNatClampNeg), .int (v2 + 1)] [] (I, L, ab_RR, n, nc, ns) res)) ∧ (¬ v1 = (-1) → ((vp_in v2 10) ∧ (vp_in (51 + v1) 399) ∧ (vp_in (51 + (I mx_way v2.toNatClampNeg)) 399) ∧ (((I mx_now (51 + v1).toNatClampNeg) < (I mx_now (51 + (I mx_way v2.toNatClampNeg)).toNatClampNeg) → (ab_E w (d + 2) mt_M_dearestOnWay 4 [.ref mx, .int (I mx_way v2.toNatClampNeg), .int (v2 + 1)] [] (I, L, ab_RR, n, nc, ns) res)) ∧ (¬ (I mx_now (51 + v1).toNatClampNeg) < (I mx_now (51 + (I mx_way v2.toNatClampNeg)).toNatClampNeg) → (((I mx_now (51 + v1).toNatClampNeg) = (I mx_now (51 + (I mx_way v2.toNatClampNeg)).toNatClampNeg) → (((I mx_way v2.toNatClampNeg) ≤ v1 → (ab_E w (d + 2) mt_M_dearestOnWay 4 [.ref mx, .int v1, .int (v2 + 1)] [] (I, L, ab_RR, n, nc, ns) res)) ∧ (¬ (I mx_way v2.toNatClampNeg) ≤ v1 → (ab_E w (d + 2) mt_M_dearestOnWay 4 [.ref mx, .int (I mx_way v2.toNatClampNeg), .int (v2 + 1)] [] (I, L, ab_RR, n, nc, ns) res)))) ∧ (¬ (I mx_now (51 + v1).toNatClampNeg) = (I mx_now (51 + (I mx_way v2.toNatClampNeg)).toNatClampNeg) → (ab_E w (d + 2) mt_M_dearestOnWay 4 [.ref mx, .int v1, .int (v2 + 1)] [] (I, L, ab_RR, n, nc, ns) res))))))))))) : ab_E w (d + 2) mt_M_dearestOnWay 4 [.ref mx, .int v1, .int v2] [] (I, L, ab_RR, n, nc, ns) res := by
  refine ab_iload_n (i := 2) d_M_dearestOnWay_4 rfl rfl ?_
  refine ab_aload_n (i := 0) d_M_dearestOnWay_5 rfl rfl ?_
  refine ab_getI (ci := 11) (k := 26) d_M_dearestOnWay_6 v_1394 rfl (by decide) (by decide) rfl ?_
  refine ab_icmp_ge (tgt := 44) d_M_dearestOnWay_9 (by decide) (fun c1 => ?_) (fun c1 => ?_)
  · have h := h.1 c1
    refine ab_iload_n (i := 1) d_M_dearestOnWay_44 rfl rfl ?_
    exact ab_iret (ty := .int) d_M_dearestOnWay_45 rfl rfl h
  · have h := h.2 c1
    refine ab_iload_n (i := 1) d_M_dearestOnWay_12 rfl rfl ?_
    refine ab_iconst (v := (-1)) d_M_dearestOnWay_13 rfl ?_
    refine ab_icmp_eq (tgt := 31) d_M_dearestOnWay_14 (by decide) (fun c2 => ?_) (fun c2 => ?_)
    · have h := h.1 c2
      refine ab_aload_n (i := 0) d_M_dearestOnWay_31 rfl rfl ?_
      refine ab_getR (ci := 11) (k := 23) (j := mx_way) d_M_dearestOnWay_32 v_1391 rfl (by decide) (by decide) rfl r_mx_23 ?_
      refine ab_iload_n (i := 2) d_M_dearestOnWay_35 rfl rfl ?_
      have g3 := h.1; have h := h.2
      refine ab_iald d_M_dearestOnWay_36 rfl rfl g3 ?_
      refine ab_istore_n (i := 1) d_M_dearestOnWay_37 rfl (by decide) (Or.inr rfl) ?_
      refine ab_iinc (i := 2) (v := (v2 + 1)) d_M_dearestOnWay_38 rfl rfl (by decide) (Or.inr rfl) ?_
      refine ab_goto (tgt := 4) d_M_dearestOnWay_41 (by decide) ?_
      exact h
    · have h := h.2 c2
      refine ab_aload_n (i := 0) d_M_dearestOnWay_17 rfl rfl ?_
      refine ab_iload_n (i := 1) d_M_dearestOnWay_18 rfl rfl ?_
      refine ab_aload_n (i := 0) d_M_dearestOnWay_19 rfl rfl ?_
      refine ab_getR (ci := 11) (k := 23) (j := mx_way) d_M_dearestOnWay_20 v_1391 rfl (by decide) (by decide) rfl r_mx_23 ?_
      refine ab_iload_n (i := 2) d_M_dearestOnWay_23 rfl rfl ?_
      have g4 := h.1; have h := h.2
      refine ab_iald d_M_dearestOnWay_24 rfl rfl g4 ?_
      have g6 := h.1; have h := h.2
      have g7 := h.1; have h := h.2
      by_cases c8 : (I mx_now (51 + v1).toNatClampNeg) < (I mx_now (51 + (I mx_way v2.toNatClampNeg)).toNatClampNeg)
      · have h := h.1 c8
        refine ab_callV (me2 := mt_M_isCheaper) (b := mx) (as := [.int v1, .int (I mx_way v2.toNatClampNeg)]) (st := []) (rv := (some (.int 1))) (M2 := (I, L, ab_RR, n, nc, ns)) d_M_dearestOnWay_25 ce_M_isCheaper v_1650 v_1652 v_82 (by decide) rfl (Nat.le_of_ble_eq_true rfl) (cx_M_isCheaper_0 v1 (I mx_way v2.toNatClampNeg) hT g6 g7 c8) (Nat.le_refl _) (Nat.le_refl _) hc hs (fun j h9 => by cases h9) (fun _ _ => rfl) ?_
        show ab_E w (d + 2) mt_M_dearestOnWay 28 [.ref mx, .int v1, .int v2] [.int 1] (I, L, ab_RR, n, nc, ns) res
        refine ab_if_eq (tgt := 38) d_M_dearestOnWay_28 (by decide) (fun c9 => absurd c9 (show ¬ (1 : Int32) = 0 from by decide)) (fun _ => ?_)
        refine ab_aload_n (i := 0) d_M_dearestOnWay_31 rfl rfl ?_
        refine ab_getR (ci := 11) (k := 23) (j := mx_way) d_M_dearestOnWay_32 v_1391 rfl (by decide) (by decide) rfl r_mx_23 ?_
        refine ab_iload_n (i := 2) d_M_dearestOnWay_35 rfl rfl ?_
        refine ab_iald d_M_dearestOnWay_36 rfl rfl g4 ?_
        refine ab_istore_n (i := 1) d_M_dearestOnWay_37 rfl (by decide) (Or.inr rfl) ?_
        refine ab_iinc (i := 2) (v := (v2 + 1)) d_M_dearestOnWay_38 rfl rfl (by decide) (Or.inr rfl) ?_
        refine ab_goto (tgt := 4) d_M_dearestOnWay_41 (by decide) ?_
        exact h
      · have h := h.2 c8
        by_cases c9 : (I mx_now (51 + v1).toNatClampNeg) = (I mx_now (51 + (I mx_way v2.toNatClampNeg)).toNatClampNeg)
        · have h := h.1 c9
          by_cases c10 : (I mx_way v2.toNatClampNeg) ≤ v1
          · have h := h.1 c10
            refine ab_callV (me2 := mt_M_isCheaper) (b := mx) (as := [.int v1, .int (I mx_way v2.toNatClampNeg)]) (st := []) (rv := (some (.int 0))) (M2 := (I, L, ab_RR, n, nc, ns)) d_M_dearestOnWay_25 ce_M_isCheaper v_1650 v_1652 v_82 (by decide) rfl (Nat.le_of_ble_eq_true rfl) (cx_M_isCheaper_2 v1 (I mx_way v2.toNatClampNeg) hT g6 g7 c8 g6 g7 c9 c10) (Nat.le_refl _) (Nat.le_refl _) hc hs (fun j h9 => by cases h9) (fun _ _ => rfl) ?_
            show ab_E w (d + 2) mt_M_dearestOnWay 28 [.ref mx, .int v1, .int v2] [.int 0] (I, L, ab_RR, n, nc, ns) res
            refine ab_if_eq (tgt := 38) d_M_dearestOnWay_28 (by decide) (fun _ => ?_) (fun c9 => absurd (show (0 : Int32) = 0 from by decide) c9)
            refine ab_iinc (i := 2) (v := (v2 + 1)) d_M_dearestOnWay_38 rfl rfl (by decide) (Or.inr rfl) ?_
            refine ab_goto (tgt := 4) d_M_dearestOnWay_41 (by decide) ?_
            exact h
          · have h := h.2 c10
            refine ab_callV (me2 := mt_M_isCheaper) (b := mx) (as := [.int v1, .int (I mx_way v2.toNatClampNeg)]) (st := []) (rv := (some (.int 1))) (M2 := (I, L, ab_RR, n, nc, ns)) d_M_dearestOnWay_25 ce_M_isCheaper v_1650 v_1652 v_82 (by decide) rfl (Nat.le_of_ble_eq_true rfl) (cx_M_isCheaper_3 v1 (I mx_way v2.toNatClampNeg) hT g6 g7 c8 g6 g7 c9 c10) (Nat.le_refl _) (Nat.le_refl _) hc hs (fun j h9 => by cases h9) (fun _ _ => rfl) ?_
            show ab_E w (d + 2) mt_M_dearestOnWay 28 [.ref mx, .int v1, .int v2] [.int 1] (I, L, ab_RR, n, nc, ns) res
            refine ab_if_eq (tgt := 38) d_M_dearestOnWay_28 (by decide) (fun c9 => absurd c9 (show ¬ (1 : Int32) = 0 from by decide)) (fun _ => ?_)
            refine ab_aload_n (i := 0) d_M_dearestOnWay_31 rfl rfl ?_
            refine ab_getR (ci := 11) (k := 23) (j := mx_way) d_M_dearestOnWay_32 v_1391 rfl (by decide) (by decide) rfl r_mx_23 ?_
            refine ab_iload_n (i := 2) d_M_dearestOnWay_35 rfl rfl ?_
            refine ab_iald d_M_dearestOnWay_36 rfl rfl g4 ?_
            refine ab_istore_n (i := 1) d_M_dearestOnWay_37 rfl (by decide) (Or.inr rfl) ?_
            refine ab_iinc (i := 2) (v := (v2 + 1)) d_M_dearestOnWay_38 rfl rfl (by decide) (Or.inr rfl) ?_
            refine ab_goto (tgt := 4) d_M_dearestOnWay_41 (by decide) ?_
            exact h
        · have h := h.2 c9
          refine ab_callV (me2 := mt_M_isCheaper) (b := mx) (as := [.int v1, .int (I mx_way v2.toNatClampNeg)]) (st := []) (rv := (some (.int 0))) (M2 := (I, L, ab_RR, n, nc, ns)) d_M_dearestOnWay_25 ce_M_isCheaper v_1650 v_1652 v_82 (by decide) rfl (Nat.le_of_ble_eq_true rfl) (cx_M_isCheaper_1 v1 (I mx_way v2.toNatClampNeg) hT g6 g7 c8 g6 g7 c9) (Nat.le_refl _) (Nat.le_refl _) hc hs (fun j h9 => by cases h9) (fun _ _ => rfl) ?_
          show ab_E w (d + 2) mt_M_dearestOnWay 28 [.ref mx, .int v1, .int v2] [.int 0] (I, L, ab_RR, n, nc, ns) res
          refine ab_if_eq (tgt := 38) d_M_dearestOnWay_28 (by decide) (fun _ => ?_) (fun c9 => absurd (show (0 : Int32) = 0 from by decide) c9)
          refine ab_iinc (i := 2) (v := (v2 + 1)) d_M_dearestOnWay_38 rfl rfl (by decide) (Or.inr rfl) ?_
          refine ab_goto (tgt := 4) d_M_dearestOnWay_41 (by decide) ?_
          exact h
theorem r_M_pricesOnWay_0 {w : ab_Wd} {d n nc ns : Nat} {I : Nat → Nat → Int32} {L : Nat → Nat → Int64} {res : ab_Re} (hT : w.1.stackTraces = false)  (hc : nc ≤ res.2.2.2.2.2.1) (hs : ns ≤ res.2.2.2.2.2.2)
    (h : ab_E w (d + 1) mt_M_pricesOnWay 4 [.ref mx, .int 0, .int 0] [] (I, L, ab_RR, n, nc, ns) res) : ab_E w (d + 1) mt_M_pricesOnWay 0 [.ref mx, .null, .null] [] (I, L, ab_RR, n, nc, ns) res := by
  refine ab_iconst (v := 0) d_M_pricesOnWay_0 rfl ?_
  refine ab_istore_n (i := 1) d_M_pricesOnWay_1 rfl (by decide) (Or.inr rfl) ?_
  refine ab_iconst (v := 0) d_M_pricesOnWay_2 rfl ?_
  refine ab_istore_n (i := 2) d_M_pricesOnWay_3 rfl (by decide) (Or.inr rfl) ?_
  exact h
theorem r_M_pricesOnWay_4 {w : ab_Wd} {d n nc ns : Nat} {I : Nat → Nat → Int32} {L : Nat → Nat → Int64} {res : ab_Re} (hT : w.1.stackTraces = false) (v1 : Int32) (v2 : Int32) (hc : nc ≤ res.2.2.2.2.2.1) (hs : ns ≤ res.2.2.2.2.2.2)
    (h : (((I mx 26) ≤ v2 → (res = (.inl (some (.int v1)), (I, L, ab_RR, n, nc, ns)))) ∧ (¬ (I mx 26) ≤ v2 → ((vp_in v2 10) ∧ (vp_in (51 + (I mx_way v2.toNatClampNeg)) 399) ∧ ab_E w (d + 1) mt_M_pricesOnWay 4 [.ref mx, .int (v1 + (I mx_now (51 + (I mx_way v2.toNatClampNeg)).toNatClampNeg)), .int (v2 + 1)] [] (I, L, ab_RR, n, nc, ns) res)))) : ab_E w (d + 1) mt_M_pricesOnWay 4 [.ref mx, .int v1, .int v2] [] (I, L, ab_RR, n, nc, ns) res := by
  refine ab_iload_n (i := 2) d_M_pricesOnWay_4 rfl rfl ?_
  refine ab_aload_n (i := 0) d_M_pricesOnWay_5 rfl rfl ?_
  refine ab_getI (ci := 11) (k := 26) d_M_pricesOnWay_6 v_1394 rfl (by decide) (by decide) rfl ?_
  refine ab_icmp_ge (tgt := 31) d_M_pricesOnWay_9 (by decide) (fun c1 => ?_) (fun c1 => ?_)
  · have h := h.1 c1
    refine ab_iload_n (i := 1) d_M_pricesOnWay_31 rfl rfl ?_
    exact ab_iret (ty := .int) d_M_pricesOnWay_32 rfl rfl h
  · have h := h.2 c1
    refine ab_iload_n (i := 1) d_M_pricesOnWay_12 rfl rfl ?_
    refine ab_aload_n (i := 0) d_M_pricesOnWay_13 rfl rfl ?_
    refine ab_aload_n (i := 0) d_M_pricesOnWay_14 rfl rfl ?_
    refine ab_getR (ci := 11) (k := 23) (j := mx_way) d_M_pricesOnWay_15 v_1391 rfl (by decide) (by decide) rfl r_mx_23 ?_
    refine ab_iload_n (i := 2) d_M_pricesOnWay_18 rfl rfl ?_
    have g2 := h.1; have h := h.2
    refine ab_iald d_M_pricesOnWay_19 rfl rfl g2 ?_
    have g4 := h.1; have h := h.2
    refine ab_callV (me2 := mt_M_priceOf) (b := mx) (as := [.int (I mx_way v2.toNatClampNeg)]) (st := [.int v1]) (rv := (some (.int (I mx_now (51 + (I mx_way v2.toNatClampNeg)).toNatClampNeg)))) (M2 := (I, L, ab_RR, n, nc, ns)) d_M_pricesOnWay_20 ce_M_priceOf v_1654 v_1656 v_83 (by decide) rfl (Nat.le_of_ble_eq_true rfl) (cx_M_priceOf_0 (I mx_way v2.toNatClampNeg) hT g4) (Nat.le_refl _) (Nat.le_refl _) hc hs (fun j h9 => by cases h9) (fun _ _ => rfl) ?_
    show ab_E w (d + 1) mt_M_pricesOnWay 23 [.ref mx, .int v1, .int v2] [.int (I mx_now (51 + (I mx_way v2.toNatClampNeg)).toNatClampNeg), .int v1] (I, L, ab_RR, n, nc, ns) res
    refine ab_iadd d_M_pricesOnWay_23 ?_
    refine ab_istore_n (i := 1) d_M_pricesOnWay_24 rfl (by decide) (Or.inr rfl) ?_
    refine ab_iinc (i := 2) (v := (v2 + 1)) d_M_pricesOnWay_25 rfl rfl (by decide) (Or.inr rfl) ?_
    refine ab_goto (tgt := 4) d_M_pricesOnWay_28 (by decide) ?_
    exact h
theorem r_M_tellRing_0 {w : ab_Wd} {d n nc ns : Nat} {I : Nat → Nat → Int32} {L : Nat → Nat → Int64} {res : ab_Re} (hT : w.1.stackTraces = false) (v1 : Int32) (v2 : Int32) (hc : nc ≤ res.2.2.2.2.2.1) (hs : ns ≤ res.2.2.2.2.2.2)
    (h : (((((I mx_now 1) >>> (v2 &&& 31)) &&& 1) = 1 → ((((v1 >>> (v2 &&& 31)) &&& 1) = 1 → (res = (.inl (some (.int 0)), ((ab_up I mx 26 0), L, ab_RR, n, nc, ns)))) ∧ (¬ ((v1 >>> (v2 &&& 31)) &&& 1) = 1 → ((vp_in (3 + v2) 399) ∧ (vp_in (27 + v2) 399) ∧ ∃ (r7 : Int32) (I8 : Nat → Nat → Int32), ab_C w d mt_M_tellWay [.ref mx, .int v1, .int (I mx_now (3 + v2).toNatClampNeg), .int (I mx_now (27 + v2).toNatClampNeg)] ((ab_up I mx 26 0), L, ab_RR, n, nc, ns) (.inl (some (.int r7)), (I8, L, ab_RR, n, nc, ns)) ∧ res = (.inl (some (.int r7)), (I8, L, ab_RR, n, nc, ns)))))) ∧ (¬ (((I mx_now 1) >>> (v2 &&& 31)) &&& 1) = 1 → (res = (.inl (some (.int 0)), ((ab_up I mx 26 0), L, ab_RR, n, nc, ns)))))) : ab_E w (d + 1) mt_M_tellRing 0 [.ref mx, .int v1, .int v2] [] (I, L, ab_RR, n, nc, ns) res := by
  refine ab_aload_n (i := 0) d_M_tellRing_0 rfl rfl ?_
  refine ab_iconst (v := 0) d_M_tellRing_1 rfl ?_
  refine ab_putI (ci := 11) (k := 26) d_M_tellRing_2 v_1394 rfl (by decide) (by decide) rfl (Or.inl rfl) rfl rfl ?_
  refine ab_aload_n (i := 0) d_M_tellRing_5 rfl rfl ?_
  refine ab_iload_n (i := 2) d_M_tellRing_6 rfl rfl ?_
  by_cases c2 : (((I mx_now 1) >>> (v2 &&& 31)) &&& 1) = 1
  · have h := h.1 c2
    refine ab_callV (me2 := mt_M_isSound) (b := mx) (as := [.int v2]) (st := []) (rv := (some (.int 1))) (M2 := ((ab_up I mx 26 0), L, ab_RR, n, nc, ns)) d_M_tellRing_7 ce_M_isSound v_1679 v_1681 v_89 (by decide) rfl (Nat.le_of_ble_eq_true rfl) (cx_M_isSound_1 v2 hT (show (vp_in 1 399) from by unfold vp_in; decide) c2) (Nat.le_refl _) (Nat.le_refl _) hc hs (fun j h9 => by cases h9) (fun _ _ => rfl) ?_
    show ab_E w (d + 1) mt_M_tellRing 10 [.ref mx, .int v1, .int v2] [.int 1] ((ab_up I mx 26 0), L, ab_RR, n, nc, ns) res
    refine ab_if_eq (tgt := 46) d_M_tellRing_10 (by decide) (fun c9 => absurd c9 (show ¬ (1 : Int32) = 0 from by decide)) (fun _ => ?_)
    refine ab_iload_n (i := 1) d_M_tellRing_13 rfl rfl ?_
    refine ab_iload_n (i := 2) d_M_tellRing_14 rfl rfl ?_
    by_cases c4 : ((v1 >>> (v2 &&& 31)) &&& 1) = 1
    · have h := h.1 c4
      refine ab_callS (me2 := mt_M_has) (as := [.int v1, .int v2]) (st := []) (rv := (some (.int 1))) (M2 := ((ab_up I mx 26 0), L, ab_RR, n, nc, ns)) d_M_tellRing_15 ce_M_has ⟨v_1648, Or.inl v_1647⟩ (Nat.le_of_ble_eq_true rfl) (cx_M_has_1 v1 v2 hT c4) (Nat.le_refl _) (Nat.le_refl _) hc hs (fun j h9 => by cases h9) (fun _ _ => rfl) ?_
      show ab_E w (d + 1) mt_M_tellRing 18 [.ref mx, .int v1, .int v2] [.int 1] ((ab_up I mx 26 0), L, ab_RR, n, nc, ns) res
      refine ab_if_ne (tgt := 46) d_M_tellRing_18 (by decide) (fun _ => ?_) (fun c9 => absurd c9 (show ¬ (1 : Int32) = 0 from by decide))
      refine ab_iconst (v := 0) d_M_tellRing_46 rfl ?_
      exact ab_iret (ty := .int) d_M_tellRing_47 rfl rfl h
    · have h := h.2 c4
      refine ab_callS (me2 := mt_M_has) (as := [.int v1, .int v2]) (st := []) (rv := (some (.int 0))) (M2 := ((ab_up I mx 26 0), L, ab_RR, n, nc, ns)) d_M_tellRing_15 ce_M_has ⟨v_1648, Or.inl v_1647⟩ (Nat.le_of_ble_eq_true rfl) (cx_M_has_0 v1 v2 hT c4) (Nat.le_refl _) (Nat.le_refl _) hc hs (fun j h9 => by cases h9) (fun _ _ => rfl) ?_
      show ab_E w (d + 1) mt_M_tellRing 18 [.ref mx, .int v1, .int v2] [.int 0] ((ab_up I mx 26 0), L, ab_RR, n, nc, ns) res
      refine ab_if_ne (tgt := 46) d_M_tellRing_18 (by decide) (fun c9 => absurd (show (0 : Int32) = 0 from by decide) c9) (fun _ => ?_)
      refine ab_aload_n (i := 0) d_M_tellRing_21 rfl rfl ?_
      refine ab_iload_n (i := 1) d_M_tellRing_22 rfl rfl ?_
      refine ab_aload_n (i := 0) d_M_tellRing_23 rfl rfl ?_
      refine ab_getR (ci := 11) (k := 4) (j := mx_now) d_M_tellRing_24 v_1372 rfl (by decide) (by decide) rfl r_mx_4 ?_
      refine ab_iconst (v := 3) d_M_tellRing_27 rfl ?_
      refine ab_iload_n (i := 2) d_M_tellRing_28 rfl rfl ?_
      refine ab_iadd d_M_tellRing_29 ?_
      have g5 := h.1; have h := h.2
      refine ab_iald d_M_tellRing_30 rfl rfl g5 ?_
      refine ab_aload_n (i := 0) d_M_tellRing_31 rfl rfl ?_
      refine ab_getR (ci := 11) (k := 4) (j := mx_now) d_M_tellRing_32 v_1372 rfl (by decide) (by decide) rfl r_mx_4 ?_
      refine ab_bipush (v := 27) d_M_tellRing_35 rfl ?_
      refine ab_iload_n (i := 2) d_M_tellRing_37 rfl rfl ?_
      refine ab_iadd d_M_tellRing_38 ?_
      have g6 := h.1; have h := h.2
      refine ab_iald d_M_tellRing_39 rfl rfl g6 ?_
      obtain ⟨r7, I8, hC, h⟩ := h
      refine ab_callV (me2 := mt_M_tellWay) (b := mx) (as := [.int v1, .int (I mx_now (3 + v2).toNatClampNeg), .int (I mx_now (27 + v2).toNatClampNeg)]) (st := []) (rv := (some (.int r7))) (M2 := (I8, L, ab_RR, n, nc, ns)) d_M_tellRing_40 ce_M_tellWay v_1687 v_1689 v_91 (by decide) rfl (Nat.le_of_ble_eq_true rfl) hC (Nat.le_refl _) (Nat.le_refl _) hc hs (fun j h9 => by cases h9) (fun _ _ => rfl) ?_
      show ab_E w (d + 1) mt_M_tellRing 43 [.ref mx, .int v1, .int v2] [.int r7] (I8, L, ab_RR, n, nc, ns) res
      refine ab_goto (tgt := 47) d_M_tellRing_43 (by decide) ?_
      exact ab_iret (ty := .int) d_M_tellRing_47 rfl rfl h
  · have h := h.2 c2
    refine ab_callV (me2 := mt_M_isSound) (b := mx) (as := [.int v2]) (st := []) (rv := (some (.int 0))) (M2 := ((ab_up I mx 26 0), L, ab_RR, n, nc, ns)) d_M_tellRing_7 ce_M_isSound v_1679 v_1681 v_89 (by decide) rfl (Nat.le_of_ble_eq_true rfl) (cx_M_isSound_0 v2 hT (show (vp_in 1 399) from by unfold vp_in; decide) c2) (Nat.le_refl _) (Nat.le_refl _) hc hs (fun j h9 => by cases h9) (fun _ _ => rfl) ?_
    show ab_E w (d + 1) mt_M_tellRing 10 [.ref mx, .int v1, .int v2] [.int 0] ((ab_up I mx 26 0), L, ab_RR, n, nc, ns) res
    refine ab_if_eq (tgt := 46) d_M_tellRing_10 (by decide) (fun _ => ?_) (fun c9 => absurd (show (0 : Int32) = 0 from by decide) c9)
    refine ab_iconst (v := 0) d_M_tellRing_46 rfl ?_
    exact ab_iret (ty := .int) d_M_tellRing_47 rfl rfl h
theorem r_M_cutOf_0 {w : ab_Wd} {d n nc ns : Nat} {I : Nat → Nat → Int32} {L : Nat → Nat → Int64} {res : ab_Re} (hT : w.1.stackTraces = false) (v1 : Int32) (v2 : Int32) (hc : nc ≤ res.2.2.2.2.2.1) (hs : ns ≤ res.2.2.2.2.2.2)
    (h : ((((v1 >>> (v2 &&& 31)) &&& 1) = 1 → (ab_E w (d + 1) mt_M_cutOf 24 [.ref mx, .int v1, .int v2, .int 0, .int (v1 &&& (((1 : Int32) <<< (v2 &&& 31)) ^^^ (-1))), .int 0] [] (I, L, ab_RR, n, nc, ns) res)) ∧ (¬ ((v1 >>> (v2 &&& 31)) &&& 1) = 1 → (res = (.inl (some (.int 0)), (I, L, ab_RR, n, nc, ns)))))) : ab_E w (d + 1) mt_M_cutOf 0 [.ref mx, .int v1, .int v2, .null, .null, .null] [] (I, L, ab_RR, n, nc, ns) res := by
  refine ab_iload_n (i := 1) d_M_cutOf_0 rfl rfl ?_
  refine ab_iload_n (i := 2) d_M_cutOf_1 rfl rfl ?_
  by_cases c2 : ((v1 >>> (v2 &&& 31)) &&& 1) = 1
  · have h := h.1 c2
    refine ab_callS (me2 := mt_M_has) (as := [.int v1, .int v2]) (st := []) (rv := (some (.int 1))) (M2 := (I, L, ab_RR, n, nc, ns)) d_M_cutOf_2 ce_M_has ⟨v_1648, Or.inl v_1647⟩ (Nat.le_of_ble_eq_true rfl) (cx_M_has_1 v1 v2 hT c2) (Nat.le_refl _) (Nat.le_refl _) hc hs (fun j h9 => by cases h9) (fun _ _ => rfl) ?_
    show ab_E w (d + 1) mt_M_cutOf 5 [.ref mx, .int v1, .int v2, .null, .null, .null] [.int 1] (I, L, ab_RR, n, nc, ns) res
    refine ab_if_ne (tgt := 10) d_M_cutOf_5 (by decide) (fun _ => ?_) (fun c9 => absurd c9 (show ¬ (1 : Int32) = 0 from by decide))
    refine ab_iconst (v := 0) d_M_cutOf_10 rfl ?_
    refine ab_istore_n (i := 3) d_M_cutOf_11 rfl (by decide) (Or.inr rfl) ?_
    refine ab_iload_n (i := 1) d_M_cutOf_12 rfl rfl ?_
    refine ab_iconst (v := 1) d_M_cutOf_13 rfl ?_
    refine ab_iload_n (i := 2) d_M_cutOf_14 rfl rfl ?_
    refine ab_ishl d_M_cutOf_15 ?_
    refine ab_iconst (v := (-1)) d_M_cutOf_16 rfl ?_
    refine ab_ixor d_M_cutOf_17 ?_
    refine ab_iand d_M_cutOf_18 ?_
    refine ab_istore (i := 4) d_M_cutOf_19 (by decide) (Or.inr rfl) ?_
    refine ab_iconst (v := 0) d_M_cutOf_21 rfl ?_
    refine ab_istore (i := 5) d_M_cutOf_22 (by decide) (Or.inr rfl) ?_
    exact h
  · have h := h.2 c2
    refine ab_callS (me2 := mt_M_has) (as := [.int v1, .int v2]) (st := []) (rv := (some (.int 0))) (M2 := (I, L, ab_RR, n, nc, ns)) d_M_cutOf_2 ce_M_has ⟨v_1648, Or.inl v_1647⟩ (Nat.le_of_ble_eq_true rfl) (cx_M_has_0 v1 v2 hT c2) (Nat.le_refl _) (Nat.le_refl _) hc hs (fun j h9 => by cases h9) (fun _ _ => rfl) ?_
    show ab_E w (d + 1) mt_M_cutOf 5 [.ref mx, .int v1, .int v2, .null, .null, .null] [.int 0] (I, L, ab_RR, n, nc, ns) res
    refine ab_if_ne (tgt := 10) d_M_cutOf_5 (by decide) (fun c9 => absurd (show (0 : Int32) = 0 from by decide) c9) (fun _ => ?_)
    refine ab_iconst (v := 0) d_M_cutOf_8 rfl ?_
    exact ab_iret (ty := .int) d_M_cutOf_9 rfl rfl h
theorem r_M_cutOf_24 {w : ab_Wd} {d n nc ns : Nat} {I : Nat → Nat → Int32} {L : Nat → Nat → Int64} {res : ab_Re} (hT : w.1.stackTraces = false) (v1 : Int32) (v2 : Int32) (v3 : Int32) (v4 : Int32) (v5 : Int32) (hc : nc ≤ res.2.2.2.2.2.1) (hs : ns ≤ res.2.2.2.2.2.2)
    (h : (((I mx 2) ≤ v5 → (res = (.inl (some (.int v3)), (I, L, ab_RR, n, nc, ns)))) ∧ (¬ (I mx 2) ≤ v5 → ((vp_in (3 + v2) 399) ∧ ∃ (r3 : Int32) (I4 : Nat → Nat → Int32), ab_C w d mt_M_tellWay [.ref mx, .int v4, .int (I mx_now (3 + v2).toNatClampNeg), .int v5] (I, L, ab_RR, n, nc, ns) (.inl (some (.int r3)), (I4, L, ab_RR, n, nc, ns)) ∧ ((r3 = (-1) → (ab_E w (d + 1) mt_M_cutOf 24 [.ref mx, .int v1, .int v2, .int (v3 ||| 0), .int v4, .int (v5 + 1)] [] (I4, L, ab_RR, n, nc, ns) res)) ∧ (¬ r3 = (-1) → (ab_E w (d + 1) mt_M_cutOf 24 [.ref mx, .int v1, .int v2, .int (v3 ||| ((1 : Int32) <<< (v5 &&& 31))), .int v4, .int (v5 + 1)] [] (I4, L, ab_RR, n, nc, ns) res))))))) : ab_E w (d + 1) mt_M_cutOf 24 [.ref mx, .int v1, .int v2, .int v3, .int v4, .int v5] [] (I, L, ab_RR, n, nc, ns) res := by
  refine ab_iload (i := 5) d_M_cutOf_24 rfl ?_
  refine ab_aload_n (i := 0) d_M_cutOf_26 rfl rfl ?_
  refine ab_getI (ci := 11) (k := 2) d_M_cutOf_27 v_1370 rfl (by decide) (by decide) rfl ?_
  refine ab_icmp_ge (tgt := 70) d_M_cutOf_30 (by decide) (fun c1 => ?_) (fun c1 => ?_)
  · have h := h.1 c1
    refine ab_iload_n (i := 3) d_M_cutOf_70 rfl rfl ?_
    exact ab_iret (ty := .int) d_M_cutOf_71 rfl rfl h
  · have h := h.2 c1
    refine ab_iload_n (i := 3) d_M_cutOf_33 rfl rfl ?_
    refine ab_aload_n (i := 0) d_M_cutOf_34 rfl rfl ?_
    refine ab_iload (i := 4) d_M_cutOf_35 rfl ?_
    refine ab_aload_n (i := 0) d_M_cutOf_37 rfl rfl ?_
    refine ab_getR (ci := 11) (k := 4) (j := mx_now) d_M_cutOf_38 v_1372 rfl (by decide) (by decide) rfl r_mx_4 ?_
    refine ab_iconst (v := 3) d_M_cutOf_41 rfl ?_
    refine ab_iload_n (i := 2) d_M_cutOf_42 rfl rfl ?_
    refine ab_iadd d_M_cutOf_43 ?_
    have g2 := h.1; have h := h.2
    refine ab_iald d_M_cutOf_44 rfl rfl g2 ?_
    refine ab_iload (i := 5) d_M_cutOf_45 rfl ?_
    obtain ⟨r3, I4, hC, h⟩ := h
    refine ab_callV (me2 := mt_M_tellWay) (b := mx) (as := [.int v4, .int (I mx_now (3 + v2).toNatClampNeg), .int v5]) (st := [.int v3]) (rv := (some (.int r3))) (M2 := (I4, L, ab_RR, n, nc, ns)) d_M_cutOf_47 ce_M_tellWay v_1687 v_1689 v_91 (by decide) rfl (Nat.le_of_ble_eq_true rfl) hC (Nat.le_refl _) (Nat.le_refl _) hc hs (fun j h9 => by cases h9) (fun _ _ => rfl) ?_
    show ab_E w (d + 1) mt_M_cutOf 50 [.ref mx, .int v1, .int v2, .int v3, .int v4, .int v5] [.int r3, .int v3] (I4, L, ab_RR, n, nc, ns) res
    refine ab_iconst (v := (-1)) d_M_cutOf_50 rfl ?_
    refine ab_icmp_eq (tgt := 61) d_M_cutOf_51 (by decide) (fun c5 => ?_) (fun c5 => ?_)
    · have h := h.1 c5
      refine ab_iconst (v := 0) d_M_cutOf_61 rfl ?_
      refine ab_ior d_M_cutOf_62 ?_
      refine ab_istore_n (i := 3) d_M_cutOf_63 rfl (by decide) (Or.inr rfl) ?_
      refine ab_iinc (i := 5) (v := (v5 + 1)) d_M_cutOf_64 rfl rfl (by decide) (Or.inr rfl) ?_
      refine ab_goto (tgt := 24) d_M_cutOf_67 (by decide) ?_
      exact h
    · have h := h.2 c5
      refine ab_iconst (v := 1) d_M_cutOf_54 rfl ?_
      refine ab_iload (i := 5) d_M_cutOf_55 rfl ?_
      refine ab_ishl d_M_cutOf_57 ?_
      refine ab_goto (tgt := 62) d_M_cutOf_58 (by decide) ?_
      refine ab_ior d_M_cutOf_62 ?_
      refine ab_istore_n (i := 3) d_M_cutOf_63 rfl (by decide) (Or.inr rfl) ?_
      refine ab_iinc (i := 5) (v := (v5 + 1)) d_M_cutOf_64 rfl rfl (by decide) (Or.inr rfl) ?_
      refine ab_goto (tgt := 24) d_M_cutOf_67 (by decide) ?_
      exact h
theorem r_M_rivalOf_0 {w : ab_Wd} {d n nc ns : Nat} {I : Nat → Nat → Int32} {L : Nat → Nat → Int64} {res : ab_Re} (hT : w.1.stackTraces = false) (v1 : Int32) (v2 : Int32) (hc : nc ≤ res.2.2.2.2.2.1) (hs : ns ≤ res.2.2.2.2.2.2)
    (h : ∃ (r1 : Int32) (I2 : Nat → Nat → Int32), ab_C w (d + 1) mt_M_cutOf [.ref mx, .int v1, .int v2] (I, L, ab_RR, n, nc, ns) (.inl (some (.int r1)), (I2, L, ab_RR, n, nc, ns)) ∧ ab_E w (d + 2) mt_M_rivalOf 13 [.ref mx, .int v1, .int v2, .int r1, .int (-1), .int 0] [] (I2, L, ab_RR, n, nc, ns) res) : ab_E w (d + 2) mt_M_rivalOf 0 [.ref mx, .int v1, .int v2, .null, .null, .null] [] (I, L, ab_RR, n, nc, ns) res := by
  refine ab_aload_n (i := 0) d_M_rivalOf_0 rfl rfl ?_
  refine ab_iload_n (i := 1) d_M_rivalOf_1 rfl rfl ?_
  refine ab_iload_n (i := 2) d_M_rivalOf_2 rfl rfl ?_
  obtain ⟨r1, I2, hC, h⟩ := h
  refine ab_callV (me2 := mt_M_cutOf) (b := mx) (as := [.int v1, .int v2]) (st := []) (rv := (some (.int r1))) (M2 := (I2, L, ab_RR, n, nc, ns)) d_M_rivalOf_3 ce_M_cutOf v_1755 v_1757 v_106 (by decide) rfl (Nat.le_of_ble_eq_true rfl) hC (Nat.le_refl _) (Nat.le_refl _) hc hs (fun j h9 => by cases h9) (fun _ _ => rfl) ?_
  show ab_E w (d + 2) mt_M_rivalOf 6 [.ref mx, .int v1, .int v2, .null, .null, .null] [.int r1] (I2, L, ab_RR, n, nc, ns) res
  refine ab_istore_n (i := 3) d_M_rivalOf_6 rfl (by decide) (Or.inr rfl) ?_
  refine ab_iconst (v := (-1)) d_M_rivalOf_7 rfl ?_
  refine ab_istore (i := 4) d_M_rivalOf_8 (by decide) (Or.inr rfl) ?_
  refine ab_iconst (v := 0) d_M_rivalOf_10 rfl ?_
  refine ab_istore (i := 5) d_M_rivalOf_11 (by decide) (Or.inr rfl) ?_
  exact h
theorem r_M_rivalOf_13 {w : ab_Wd} {d n nc ns : Nat} {I : Nat → Nat → Int32} {L : Nat → Nat → Int64} {res : ab_Re} (hT : w.1.stackTraces = false) (v1 : Int32) (v2 : Int32) (v3 : Int32) (v4 : Int32) (v5 : Int32) (hc : nc ≤ res.2.2.2.2.2.1) (hs : ns ≤ res.2.2.2.2.2.2)
    (h : (((I mx_now 0) ≤ v5 → (res = (.inl (some (.int v4)), (I, L, ab_RR, n, nc, ns)))) ∧ (¬ (I mx_now 0) ≤ v5 → ((v5 = v2 → (ab_E w (d + 2) mt_M_rivalOf 13 [.ref mx, .int v1, .int v2, .int v3, .int v4, .int (v5 + 1)] [] (I, L, ab_RR, n, nc, ns) res)) ∧ (¬ v5 = v2 → (((((I mx_now 1) >>> (v5 &&& 31)) &&& 1) = 1 → ((v3 = 0 → (ab_E w (d + 2) mt_M_rivalOf 13 [.ref mx, .int v1, .int v2, .int v3, .int v4, .int (v5 + 1)] [] (I, L, ab_RR, n, nc, ns) res)) ∧ (¬ v3 = 0 → ((vp_in (3 + v5) 399) ∧ ((((v3 >>> ((I mx_now (3 + v5).toNatClampNeg) &&& 31)) &&& 1) = 1 → ((vp_in (27 + v5) 399) ∧ ((((v3 >>> ((I mx_now (27 + v5).toNatClampNeg) &&& 31)) &&& 1) = 1 → (ab_E w (d + 2) mt_M_rivalOf 13 [.ref mx, .int v1, .int v2, .int v3, .int v4, .int (v5 + 1)] [] (I, L, ab_RR, n, nc, ns) res)) ∧ (¬ ((v3 >>> ((I mx_now (27 + v5).toNatClampNeg) &&& 31)) &&& 1) = 1 → ((v4 = (-1) → (ab_E w (d + 2) mt_M_rivalOf 13 [.ref mx, .int v1, .int v2, .int v3, .int v5, .int (v5 + 1)] [] (I, L, ab_RR, n, nc, ns) res)) ∧ (¬ v4 = (-1) → ((vp_in (51 + v5) 399) ∧ (vp_in (51 + v4) 399) ∧ (((I mx_now (51 + v5).toNatClampNeg) < (I mx_now (51 + v4).toNatClampNeg) → (ab_E w (d + 2) mt_M_rivalOf 13 [.ref mx, .int v1, .int v2, .int v3, .int v5, .int (v5 + 1)] [] (I, L, ab_RR, n, nc, ns) res)) ∧ (¬ (I mx_now (51 + v5).toNatClampNeg) < (I mx_now (51 + v4).toNatClampNeg) → (((I mx_now (51 + v5).toNatClampNeg) = (I mx_now (51 + v4).toNatClampNeg) → ((v4 ≤ v5 → (ab_E w (d + 2) mt_M_rivalOf 13 [.ref mx, .int v1, .int v2, .int v3, .int v4, .int (v5 + 1)] [] (I, L, ab_RR, n, nc, ns) res)) ∧ (¬ v4 ≤ v5 → (ab_E w (d + 2) mt_M_rivalOf 13 [.ref mx, .int v1, .int v2, .int v3, .int v5, .int (v5 + 1)] [] (I, L, ab_RR, n, nc, ns) res)))) ∧ (¬ (I mx_now (51 + v5).toNatClampNeg) = (I mx_now (51 + v4).toNatClampNeg) → (ab_E w (d + 2) mt_M_rivalOf 13 [.ref mx, .int v1, .int v2, .int v3, .int v4, .int (v5 + 1)] [] (I, L, ab_RR, n, nc, ns) res)))))))))))) ∧ (¬ ((v3 >>> ((I mx_now (3 + v5).toNatClampNeg) &&& 31)) &&& 1) = 1 → ((vp_in (27 + v5) 399) ∧ ((((v3 >>> ((I mx_now (27 + v5).toNatClampNeg) &&& 31)) &&& 1) = 1 → ((v4 = (-1) → (ab_E w (d + 2) mt_M_rivalOf 13 [.ref mx, .int v1, .int v2, .int v3, .int v5, .int (v5 + 1)] [] (I, L, ab_RR, n, nc, ns) res)) ∧ (¬ v4 = (-1) → ((vp_in (51 + v5) 399) ∧ (vp_in (51 + v4) 399) ∧ (((I mx_now (51 + v5).toNatClampNeg) < (I mx_now (51 + v4).toNatClampNeg) → (ab_E w (d + 2) mt_M_rivalOf 13 [.ref mx, .int v1, .int v2, .int v3, .int v5, .int (v5 + 1)] [] (I, L, ab_RR, n, nc, ns) res)) ∧ (¬ (I mx_now (51 + v5).toNatClampNeg) < (I mx_now (51 + v4).toNatClampNeg) → (((I mx_now (51 + v5).toNatClampNeg) = (I mx_now (51 + v4).toNatClampNeg) → ((v4 ≤ v5 → (ab_E w (d + 2) mt_M_rivalOf 13 [.ref mx, .int v1, .int v2, .int v3, .int v4, .int (v5 + 1)] [] (I, L, ab_RR, n, nc, ns) res)) ∧ (¬ v4 ≤ v5 → (ab_E w (d + 2) mt_M_rivalOf 13 [.ref mx, .int v1, .int v2, .int v3, .int v5, .int (v5 + 1)] [] (I, L, ab_RR, n, nc, ns) res)))) ∧ (¬ (I mx_now (51 + v5).toNatClampNeg) = (I mx_now (51 + v4).toNatClampNeg) → (ab_E w (d + 2) mt_M_rivalOf 13 [.ref mx, .int v1, .int v2, .int v3, .int v4, .int (v5 + 1)] [] (I, L, ab_RR, n, nc, ns) res))))))))) ∧ (¬ ((v3 >>> ((I mx_now (27 + v5).toNatClampNeg) &&& 31)) &&& 1) = 1 → (ab_E w (d + 2) mt_M_rivalOf 13 [.ref mx, .int v1, .int v2, .int v3, .int v4, .int (v5 + 1)] [] (I, L, ab_RR, n, nc, ns) res)))))))))) ∧ (¬ (((I mx_now 1) >>> (v5 &&& 31)) &&& 1) = 1 → (ab_E w (d + 2) mt_M_rivalOf 13 [.ref mx, .int v1, .int v2, .int v3, .int v4, .int (v5 + 1)] [] (I, L, ab_RR, n, nc, ns) res)))))))) : ab_E w (d + 2) mt_M_rivalOf 13 [.ref mx, .int v1, .int v2, .int v3, .int v4, .int v5] [] (I, L, ab_RR, n, nc, ns) res := by
  refine ab_iload (i := 5) d_M_rivalOf_13 rfl ?_
  refine ab_aload_n (i := 0) d_M_rivalOf_15 rfl rfl ?_
  refine ab_callV (me2 := mt_M_many) (b := mx) (as := []) (st := [.int v5]) (rv := (some (.int (I mx_now 0)))) (M2 := (I, L, ab_RR, n, nc, ns)) d_M_rivalOf_16 ce_M_many v_1635 v_1637 v_79 (by decide) rfl (Nat.le_of_ble_eq_true rfl) (cx_M_many_0  hT (show (vp_in 0 399) from by unfold vp_in; decide)) (Nat.le_refl _) (Nat.le_refl _) hc hs (fun j h9 => by cases h9) (fun _ _ => rfl) ?_
  show ab_E w (d + 2) mt_M_rivalOf 19 [.ref mx, .int v1, .int v2, .int v3, .int v4, .int v5] [.int (I mx_now 0), .int v5] (I, L, ab_RR, n, nc, ns) res
  refine ab_icmp_ge (tgt := 106) d_M_rivalOf_19 (by decide) (fun c2 => ?_) (fun c2 => ?_)
  · have h := h.1 c2
    refine ab_iload (i := 4) d_M_rivalOf_106 rfl ?_
    exact ab_iret (ty := .int) d_M_rivalOf_108 rfl rfl h
  · have h := h.2 c2
    refine ab_iload (i := 5) d_M_rivalOf_22 rfl ?_
    refine ab_iload_n (i := 2) d_M_rivalOf_24 rfl rfl ?_
    refine ab_icmp_eq (tgt := 100) d_M_rivalOf_25 (by decide) (fun c3 => ?_) (fun c3 => ?_)
    · have h := h.1 c3
      refine ab_iinc (i := 5) (v := (v5 + 1)) d_M_rivalOf_100 rfl rfl (by decide) (Or.inr rfl) ?_
      refine ab_goto (tgt := 13) d_M_rivalOf_103 (by decide) ?_
      exact h
    · have h := h.2 c3
      refine ab_aload_n (i := 0) d_M_rivalOf_28 rfl rfl ?_
      refine ab_iload (i := 5) d_M_rivalOf_29 rfl ?_
      by_cases c5 : (((I mx_now 1) >>> (v5 &&& 31)) &&& 1) = 1
      · have h := h.1 c5
        refine ab_callV (me2 := mt_M_isSound) (b := mx) (as := [.int v5]) (st := []) (rv := (some (.int 1))) (M2 := (I, L, ab_RR, n, nc, ns)) d_M_rivalOf_31 ce_M_isSound v_1679 v_1681 v_89 (by decide) rfl (Nat.le_of_ble_eq_true rfl) (cx_M_isSound_1 v5 hT (show (vp_in 1 399) from by unfold vp_in; decide) c5) (Nat.le_refl _) (Nat.le_refl _) hc hs (fun j h9 => by cases h9) (fun _ _ => rfl) ?_
        show ab_E w (d + 2) mt_M_rivalOf 34 [.ref mx, .int v1, .int v2, .int v3, .int v4, .int v5] [.int 1] (I, L, ab_RR, n, nc, ns) res
        refine ab_if_eq (tgt := 100) d_M_rivalOf_34 (by decide) (fun c9 => absurd c9 (show ¬ (1 : Int32) = 0 from by decide)) (fun _ => ?_)
        refine ab_iload_n (i := 3) d_M_rivalOf_37 rfl rfl ?_
        refine ab_if_eq (tgt := 100) d_M_rivalOf_38 (by decide) (fun c6 => ?_) (fun c6 => ?_)
        · have h := h.1 c6
          refine ab_iinc (i := 5) (v := (v5 + 1)) d_M_rivalOf_100 rfl rfl (by decide) (Or.inr rfl) ?_
          refine ab_goto (tgt := 13) d_M_rivalOf_103 (by decide) ?_
          exact h
        · have h := h.2 c6
          refine ab_iload_n (i := 3) d_M_rivalOf_41 rfl rfl ?_
          refine ab_aload_n (i := 0) d_M_rivalOf_42 rfl rfl ?_
          refine ab_getR (ci := 11) (k := 4) (j := mx_now) d_M_rivalOf_43 v_1372 rfl (by decide) (by decide) rfl r_mx_4 ?_
          refine ab_iconst (v := 3) d_M_rivalOf_46 rfl ?_
          refine ab_iload (i := 5) d_M_rivalOf_47 rfl ?_
          refine ab_iadd d_M_rivalOf_49 ?_
          have g7 := h.1; have h := h.2
          refine ab_iald d_M_rivalOf_50 rfl rfl g7 ?_
          by_cases c9 : ((v3 >>> ((I mx_now (3 + v5).toNatClampNeg) &&& 31)) &&& 1) = 1
          · have h := h.1 c9
            refine ab_callS (me2 := mt_M_has) (as := [.int v3, .int (I mx_now (3 + v5).toNatClampNeg)]) (st := []) (rv := (some (.int 1))) (M2 := (I, L, ab_RR, n, nc, ns)) d_M_rivalOf_51 ce_M_has ⟨v_1648, Or.inl v_1647⟩ (Nat.le_of_ble_eq_true rfl) (cx_M_has_1 v3 (I mx_now (3 + v5).toNatClampNeg) hT c9) (Nat.le_refl _) (Nat.le_refl _) hc hs (fun j h9 => by cases h9) (fun _ _ => rfl) ?_
            show ab_E w (d + 2) mt_M_rivalOf 54 [.ref mx, .int v1, .int v2, .int v3, .int v4, .int v5] [.int 1] (I, L, ab_RR, n, nc, ns) res
            refine ab_iload_n (i := 3) d_M_rivalOf_54 rfl rfl ?_
            refine ab_aload_n (i := 0) d_M_rivalOf_55 rfl rfl ?_
            refine ab_getR (ci := 11) (k := 4) (j := mx_now) d_M_rivalOf_56 v_1372 rfl (by decide) (by decide) rfl r_mx_4 ?_
            refine ab_bipush (v := 27) d_M_rivalOf_59 rfl ?_
            refine ab_iload (i := 5) d_M_rivalOf_61 rfl ?_
            refine ab_iadd d_M_rivalOf_63 ?_
            have g10 := h.1; have h := h.2
            refine ab_iald d_M_rivalOf_64 rfl rfl g10 ?_
            by_cases c12 : ((v3 >>> ((I mx_now (27 + v5).toNatClampNeg) &&& 31)) &&& 1) = 1
            · have h := h.1 c12
              refine ab_callS (me2 := mt_M_has) (as := [.int v3, .int (I mx_now (27 + v5).toNatClampNeg)]) (st := [.int 1]) (rv := (some (.int 1))) (M2 := (I, L, ab_RR, n, nc, ns)) d_M_rivalOf_65 ce_M_has ⟨v_1648, Or.inl v_1647⟩ (Nat.le_of_ble_eq_true rfl) (cx_M_has_1 v3 (I mx_now (27 + v5).toNatClampNeg) hT c12) (Nat.le_refl _) (Nat.le_refl _) hc hs (fun j h9 => by cases h9) (fun _ _ => rfl) ?_
              show ab_E w (d + 2) mt_M_rivalOf 68 [.ref mx, .int v1, .int v2, .int v3, .int v4, .int v5] [.int 1, .int 1] (I, L, ab_RR, n, nc, ns) res
              refine ab_icmp_ne (tgt := 74) d_M_rivalOf_68 (by decide) (fun c9 => absurd (show (1 : Int32) = 1 from by decide) c9) (fun _ => ?_)
              refine ab_goto (tgt := 100) d_M_rivalOf_71 (by decide) ?_
              refine ab_iinc (i := 5) (v := (v5 + 1)) d_M_rivalOf_100 rfl rfl (by decide) (Or.inr rfl) ?_
              refine ab_goto (tgt := 13) d_M_rivalOf_103 (by decide) ?_
              exact h
            · have h := h.2 c12
              refine ab_callS (me2 := mt_M_has) (as := [.int v3, .int (I mx_now (27 + v5).toNatClampNeg)]) (st := [.int 1]) (rv := (some (.int 0))) (M2 := (I, L, ab_RR, n, nc, ns)) d_M_rivalOf_65 ce_M_has ⟨v_1648, Or.inl v_1647⟩ (Nat.le_of_ble_eq_true rfl) (cx_M_has_0 v3 (I mx_now (27 + v5).toNatClampNeg) hT c12) (Nat.le_refl _) (Nat.le_refl _) hc hs (fun j h9 => by cases h9) (fun _ _ => rfl) ?_
              show ab_E w (d + 2) mt_M_rivalOf 68 [.ref mx, .int v1, .int v2, .int v3, .int v4, .int v5] [.int 0, .int 1] (I, L, ab_RR, n, nc, ns) res
              refine ab_icmp_ne (tgt := 74) d_M_rivalOf_68 (by decide) (fun _ => ?_) (fun c9 => absurd c9 (show ¬ (1 : Int32) = 0 from by decide))
              refine ab_iload (i := 4) d_M_rivalOf_74 rfl ?_
              refine ab_iconst (v := (-1)) d_M_rivalOf_76 rfl ?_
              refine ab_icmp_eq (tgt := 91) d_M_rivalOf_77 (by decide) (fun c13 => ?_) (fun c13 => ?_)
              · have h := h.1 c13
                refine ab_iload (i := 5) d_M_rivalOf_91 rfl ?_
                refine ab_goto (tgt := 98) d_M_rivalOf_93 (by decide) ?_
                refine ab_istore (i := 4) d_M_rivalOf_98 (by decide) (Or.inr rfl) ?_
                refine ab_iinc (i := 5) (v := (v5 + 1)) d_M_rivalOf_100 rfl rfl (by decide) (Or.inr rfl) ?_
                refine ab_goto (tgt := 13) d_M_rivalOf_103 (by decide) ?_
                exact h
              · have h := h.2 c13
                refine ab_aload_n (i := 0) d_M_rivalOf_80 rfl rfl ?_
                refine ab_iload (i := 5) d_M_rivalOf_81 rfl ?_
                refine ab_iload (i := 4) d_M_rivalOf_83 rfl ?_
                have g15 := h.1; have h := h.2
                have g16 := h.1; have h := h.2
                by_cases c17 : (I mx_now (51 + v5).toNatClampNeg) < (I mx_now (51 + v4).toNatClampNeg)
                · have h := h.1 c17
                  refine ab_callV (me2 := mt_M_isCheaper) (b := mx) (as := [.int v5, .int v4]) (st := []) (rv := (some (.int 1))) (M2 := (I, L, ab_RR, n, nc, ns)) d_M_rivalOf_85 ce_M_isCheaper v_1650 v_1652 v_82 (by decide) rfl (Nat.le_of_ble_eq_true rfl) (cx_M_isCheaper_0 v5 v4 hT g15 g16 c17) (Nat.le_refl _) (Nat.le_refl _) hc hs (fun j h9 => by cases h9) (fun _ _ => rfl) ?_
                  show ab_E w (d + 2) mt_M_rivalOf 88 [.ref mx, .int v1, .int v2, .int v3, .int v4, .int v5] [.int 1] (I, L, ab_RR, n, nc, ns) res
                  refine ab_if_eq (tgt := 96) d_M_rivalOf_88 (by decide) (fun c9 => absurd c9 (show ¬ (1 : Int32) = 0 from by decide)) (fun _ => ?_)
                  refine ab_iload (i := 5) d_M_rivalOf_91 rfl ?_
                  refine ab_goto (tgt := 98) d_M_rivalOf_93 (by decide) ?_
                  refine ab_istore (i := 4) d_M_rivalOf_98 (by decide) (Or.inr rfl) ?_
                  refine ab_iinc (i := 5) (v := (v5 + 1)) d_M_rivalOf_100 rfl rfl (by decide) (Or.inr rfl) ?_
                  refine ab_goto (tgt := 13) d_M_rivalOf_103 (by decide) ?_
                  exact h
                · have h := h.2 c17
                  by_cases c18 : (I mx_now (51 + v5).toNatClampNeg) = (I mx_now (51 + v4).toNatClampNeg)
                  · have h := h.1 c18
                    by_cases c19 : v4 ≤ v5
                    · have h := h.1 c19
                      refine ab_callV (me2 := mt_M_isCheaper) (b := mx) (as := [.int v5, .int v4]) (st := []) (rv := (some (.int 0))) (M2 := (I, L, ab_RR, n, nc, ns)) d_M_rivalOf_85 ce_M_isCheaper v_1650 v_1652 v_82 (by decide) rfl (Nat.le_of_ble_eq_true rfl) (cx_M_isCheaper_2 v5 v4 hT g15 g16 c17 g15 g16 c18 c19) (Nat.le_refl _) (Nat.le_refl _) hc hs (fun j h9 => by cases h9) (fun _ _ => rfl) ?_
                      show ab_E w (d + 2) mt_M_rivalOf 88 [.ref mx, .int v1, .int v2, .int v3, .int v4, .int v5] [.int 0] (I, L, ab_RR, n, nc, ns) res
                      refine ab_if_eq (tgt := 96) d_M_rivalOf_88 (by decide) (fun _ => ?_) (fun c9 => absurd (show (0 : Int32) = 0 from by decide) c9)
                      refine ab_iload (i := 4) d_M_rivalOf_96 rfl ?_
                      refine ab_istore (i := 4) d_M_rivalOf_98 (by decide) (Or.inr rfl) ?_
                      refine ab_iinc (i := 5) (v := (v5 + 1)) d_M_rivalOf_100 rfl rfl (by decide) (Or.inr rfl) ?_
                      refine ab_goto (tgt := 13) d_M_rivalOf_103 (by decide) ?_
                      exact h
                    · have h := h.2 c19
                      refine ab_callV (me2 := mt_M_isCheaper) (b := mx) (as := [.int v5, .int v4]) (st := []) (rv := (some (.int 1))) (M2 := (I, L, ab_RR, n, nc, ns)) d_M_rivalOf_85 ce_M_isCheaper v_1650 v_1652 v_82 (by decide) rfl (Nat.le_of_ble_eq_true rfl) (cx_M_isCheaper_3 v5 v4 hT g15 g16 c17 g15 g16 c18 c19) (Nat.le_refl _) (Nat.le_refl _) hc hs (fun j h9 => by cases h9) (fun _ _ => rfl) ?_
                      show ab_E w (d + 2) mt_M_rivalOf 88 [.ref mx, .int v1, .int v2, .int v3, .int v4, .int v5] [.int 1] (I, L, ab_RR, n, nc, ns) res
                      refine ab_if_eq (tgt := 96) d_M_rivalOf_88 (by decide) (fun c9 => absurd c9 (show ¬ (1 : Int32) = 0 from by decide)) (fun _ => ?_)
                      refine ab_iload (i := 5) d_M_rivalOf_91 rfl ?_
                      refine ab_goto (tgt := 98) d_M_rivalOf_93 (by decide) ?_
                      refine ab_istore (i := 4) d_M_rivalOf_98 (by decide) (Or.inr rfl) ?_
                      refine ab_iinc (i := 5) (v := (v5 + 1)) d_M_rivalOf_100 rfl rfl (by decide) (Or.inr rfl) ?_
                      refine ab_goto (tgt := 13) d_M_rivalOf_103 (by decide) ?_
                      exact h
                  · have h := h.2 c18
                    refine ab_callV (me2 := mt_M_isCheaper) (b := mx) (as := [.int v5, .int v4]) (st := []) (rv := (some (.int 0))) (M2 := (I, L, ab_RR, n, nc, ns)) d_M_rivalOf_85 ce_M_isCheaper v_1650 v_1652 v_82 (by decide) rfl (Nat.le_of_ble_eq_true rfl) (cx_M_isCheaper_1 v5 v4 hT g15 g16 c17 g15 g16 c18) (Nat.le_refl _) (Nat.le_refl _) hc hs (fun j h9 => by cases h9) (fun _ _ => rfl) ?_
                    show ab_E w (d + 2) mt_M_rivalOf 88 [.ref mx, .int v1, .int v2, .int v3, .int v4, .int v5] [.int 0] (I, L, ab_RR, n, nc, ns) res
                    refine ab_if_eq (tgt := 96) d_M_rivalOf_88 (by decide) (fun _ => ?_) (fun c9 => absurd (show (0 : Int32) = 0 from by decide) c9)
                    refine ab_iload (i := 4) d_M_rivalOf_96 rfl ?_
                    refine ab_istore (i := 4) d_M_rivalOf_98 (by decide) (Or.inr rfl) ?_
                    refine ab_iinc (i := 5) (v := (v5 + 1)) d_M_rivalOf_100 rfl rfl (by decide) (Or.inr rfl) ?_
                    refine ab_goto (tgt := 13) d_M_rivalOf_103 (by decide) ?_
                    exact h
          · have h := h.2 c9
            refine ab_callS (me2 := mt_M_has) (as := [.int v3, .int (I mx_now (3 + v5).toNatClampNeg)]) (st := []) (rv := (some (.int 0))) (M2 := (I, L, ab_RR, n, nc, ns)) d_M_rivalOf_51 ce_M_has ⟨v_1648, Or.inl v_1647⟩ (Nat.le_of_ble_eq_true rfl) (cx_M_has_0 v3 (I mx_now (3 + v5).toNatClampNeg) hT c9) (Nat.le_refl _) (Nat.le_refl _) hc hs (fun j h9 => by cases h9) (fun _ _ => rfl) ?_
            show ab_E w (d + 2) mt_M_rivalOf 54 [.ref mx, .int v1, .int v2, .int v3, .int v4, .int v5] [.int 0] (I, L, ab_RR, n, nc, ns) res
            refine ab_iload_n (i := 3) d_M_rivalOf_54 rfl rfl ?_
            refine ab_aload_n (i := 0) d_M_rivalOf_55 rfl rfl ?_
            refine ab_getR (ci := 11) (k := 4) (j := mx_now) d_M_rivalOf_56 v_1372 rfl (by decide) (by decide) rfl r_mx_4 ?_
            refine ab_bipush (v := 27) d_M_rivalOf_59 rfl ?_
            refine ab_iload (i := 5) d_M_rivalOf_61 rfl ?_
            refine ab_iadd d_M_rivalOf_63 ?_
            have g20 := h.1; have h := h.2
            refine ab_iald d_M_rivalOf_64 rfl rfl g20 ?_
            by_cases c22 : ((v3 >>> ((I mx_now (27 + v5).toNatClampNeg) &&& 31)) &&& 1) = 1
            · have h := h.1 c22
              refine ab_callS (me2 := mt_M_has) (as := [.int v3, .int (I mx_now (27 + v5).toNatClampNeg)]) (st := [.int 0]) (rv := (some (.int 1))) (M2 := (I, L, ab_RR, n, nc, ns)) d_M_rivalOf_65 ce_M_has ⟨v_1648, Or.inl v_1647⟩ (Nat.le_of_ble_eq_true rfl) (cx_M_has_1 v3 (I mx_now (27 + v5).toNatClampNeg) hT c22) (Nat.le_refl _) (Nat.le_refl _) hc hs (fun j h9 => by cases h9) (fun _ _ => rfl) ?_
              show ab_E w (d + 2) mt_M_rivalOf 68 [.ref mx, .int v1, .int v2, .int v3, .int v4, .int v5] [.int 1, .int 0] (I, L, ab_RR, n, nc, ns) res
              refine ab_icmp_ne (tgt := 74) d_M_rivalOf_68 (by decide) (fun _ => ?_) (fun c9 => absurd c9 (show ¬ (0 : Int32) = 1 from by decide))
              refine ab_iload (i := 4) d_M_rivalOf_74 rfl ?_
              refine ab_iconst (v := (-1)) d_M_rivalOf_76 rfl ?_
              refine ab_icmp_eq (tgt := 91) d_M_rivalOf_77 (by decide) (fun c23 => ?_) (fun c23 => ?_)
              · have h := h.1 c23
                refine ab_iload (i := 5) d_M_rivalOf_91 rfl ?_
                refine ab_goto (tgt := 98) d_M_rivalOf_93 (by decide) ?_
                refine ab_istore (i := 4) d_M_rivalOf_98 (by decide) (Or.inr rfl) ?_
                refine ab_iinc (i := 5) (v := (v5 + 1)) d_M_rivalOf_100 rfl rfl (by decide) (Or.inr rfl) ?_
                refine ab_goto (tgt := 13) d_M_rivalOf_103 (by decide) ?_
                exact h
              · have h := h.2 c23
                refine ab_aload_n (i := 0) d_M_rivalOf_80 rfl rfl ?_
                refine ab_iload (i := 5) d_M_rivalOf_81 rfl ?_
                refine ab_iload (i := 4) d_M_rivalOf_83 rfl ?_
                have g25 := h.1; have h := h.2
                have g26 := h.1; have h := h.2
                by_cases c27 : (I mx_now (51 + v5).toNatClampNeg) < (I mx_now (51 + v4).toNatClampNeg)
                · have h := h.1 c27
                  refine ab_callV (me2 := mt_M_isCheaper) (b := mx) (as := [.int v5, .int v4]) (st := []) (rv := (some (.int 1))) (M2 := (I, L, ab_RR, n, nc, ns)) d_M_rivalOf_85 ce_M_isCheaper v_1650 v_1652 v_82 (by decide) rfl (Nat.le_of_ble_eq_true rfl) (cx_M_isCheaper_0 v5 v4 hT g25 g26 c27) (Nat.le_refl _) (Nat.le_refl _) hc hs (fun j h9 => by cases h9) (fun _ _ => rfl) ?_
                  show ab_E w (d + 2) mt_M_rivalOf 88 [.ref mx, .int v1, .int v2, .int v3, .int v4, .int v5] [.int 1] (I, L, ab_RR, n, nc, ns) res
                  refine ab_if_eq (tgt := 96) d_M_rivalOf_88 (by decide) (fun c9 => absurd c9 (show ¬ (1 : Int32) = 0 from by decide)) (fun _ => ?_)
                  refine ab_iload (i := 5) d_M_rivalOf_91 rfl ?_
                  refine ab_goto (tgt := 98) d_M_rivalOf_93 (by decide) ?_
                  refine ab_istore (i := 4) d_M_rivalOf_98 (by decide) (Or.inr rfl) ?_
                  refine ab_iinc (i := 5) (v := (v5 + 1)) d_M_rivalOf_100 rfl rfl (by decide) (Or.inr rfl) ?_
                  refine ab_goto (tgt := 13) d_M_rivalOf_103 (by decide) ?_
                  exact h
                · have h := h.2 c27
                  by_cases c28 : (I mx_now (51 + v5).toNatClampNeg) = (I mx_now (51 + v4).toNatClampNeg)
                  · have h := h.1 c28
                    by_cases c29 : v4 ≤ v5
                    · have h := h.1 c29
                      refine ab_callV (me2 := mt_M_isCheaper) (b := mx) (as := [.int v5, .int v4]) (st := []) (rv := (some (.int 0))) (M2 := (I, L, ab_RR, n, nc, ns)) d_M_rivalOf_85 ce_M_isCheaper v_1650 v_1652 v_82 (by decide) rfl (Nat.le_of_ble_eq_true rfl) (cx_M_isCheaper_2 v5 v4 hT g25 g26 c27 g25 g26 c28 c29) (Nat.le_refl _) (Nat.le_refl _) hc hs (fun j h9 => by cases h9) (fun _ _ => rfl) ?_
                      show ab_E w (d + 2) mt_M_rivalOf 88 [.ref mx, .int v1, .int v2, .int v3, .int v4, .int v5] [.int 0] (I, L, ab_RR, n, nc, ns) res
                      refine ab_if_eq (tgt := 96) d_M_rivalOf_88 (by decide) (fun _ => ?_) (fun c9 => absurd (show (0 : Int32) = 0 from by decide) c9)
                      refine ab_iload (i := 4) d_M_rivalOf_96 rfl ?_
                      refine ab_istore (i := 4) d_M_rivalOf_98 (by decide) (Or.inr rfl) ?_
                      refine ab_iinc (i := 5) (v := (v5 + 1)) d_M_rivalOf_100 rfl rfl (by decide) (Or.inr rfl) ?_
                      refine ab_goto (tgt := 13) d_M_rivalOf_103 (by decide) ?_
                      exact h
                    · have h := h.2 c29
                      refine ab_callV (me2 := mt_M_isCheaper) (b := mx) (as := [.int v5, .int v4]) (st := []) (rv := (some (.int 1))) (M2 := (I, L, ab_RR, n, nc, ns)) d_M_rivalOf_85 ce_M_isCheaper v_1650 v_1652 v_82 (by decide) rfl (Nat.le_of_ble_eq_true rfl) (cx_M_isCheaper_3 v5 v4 hT g25 g26 c27 g25 g26 c28 c29) (Nat.le_refl _) (Nat.le_refl _) hc hs (fun j h9 => by cases h9) (fun _ _ => rfl) ?_
                      show ab_E w (d + 2) mt_M_rivalOf 88 [.ref mx, .int v1, .int v2, .int v3, .int v4, .int v5] [.int 1] (I, L, ab_RR, n, nc, ns) res
                      refine ab_if_eq (tgt := 96) d_M_rivalOf_88 (by decide) (fun c9 => absurd c9 (show ¬ (1 : Int32) = 0 from by decide)) (fun _ => ?_)
                      refine ab_iload (i := 5) d_M_rivalOf_91 rfl ?_
                      refine ab_goto (tgt := 98) d_M_rivalOf_93 (by decide) ?_
                      refine ab_istore (i := 4) d_M_rivalOf_98 (by decide) (Or.inr rfl) ?_
                      refine ab_iinc (i := 5) (v := (v5 + 1)) d_M_rivalOf_100 rfl rfl (by decide) (Or.inr rfl) ?_
                      refine ab_goto (tgt := 13) d_M_rivalOf_103 (by decide) ?_
                      exact h
                  · have h := h.2 c28
                    refine ab_callV (me2 := mt_M_isCheaper) (b := mx) (as := [.int v5, .int v4]) (st := []) (rv := (some (.int 0))) (M2 := (I, L, ab_RR, n, nc, ns)) d_M_rivalOf_85 ce_M_isCheaper v_1650 v_1652 v_82 (by decide) rfl (Nat.le_of_ble_eq_true rfl) (cx_M_isCheaper_1 v5 v4 hT g25 g26 c27 g25 g26 c28) (Nat.le_refl _) (Nat.le_refl _) hc hs (fun j h9 => by cases h9) (fun _ _ => rfl) ?_
                    show ab_E w (d + 2) mt_M_rivalOf 88 [.ref mx, .int v1, .int v2, .int v3, .int v4, .int v5] [.int 0] (I, L, ab_RR, n, nc, ns) res
                    refine ab_if_eq (tgt := 96) d_M_rivalOf_88 (by decide) (fun _ => ?_) (fun c9 => absurd (show (0 : Int32) = 0 from by decide) c9)
                    refine ab_iload (i := 4) d_M_rivalOf_96 rfl ?_
                    refine ab_istore (i := 4) d_M_rivalOf_98 (by decide) (Or.inr rfl) ?_
                    refine ab_iinc (i := 5) (v := (v5 + 1)) d_M_rivalOf_100 rfl rfl (by decide) (Or.inr rfl) ?_
                    refine ab_goto (tgt := 13) d_M_rivalOf_103 (by decide) ?_
                    exact h
            · have h := h.2 c22
              refine ab_callS (me2 := mt_M_has) (as := [.int v3, .int (I mx_now (27 + v5).toNatClampNeg)]) (st := [.int 0]) (rv := (some (.int 0))) (M2 := (I, L, ab_RR, n, nc, ns)) d_M_rivalOf_65 ce_M_has ⟨v_1648, Or.inl v_1647⟩ (Nat.le_of_ble_eq_true rfl) (cx_M_has_0 v3 (I mx_now (27 + v5).toNatClampNeg) hT c22) (Nat.le_refl _) (Nat.le_refl _) hc hs (fun j h9 => by cases h9) (fun _ _ => rfl) ?_
              show ab_E w (d + 2) mt_M_rivalOf 68 [.ref mx, .int v1, .int v2, .int v3, .int v4, .int v5] [.int 0, .int 0] (I, L, ab_RR, n, nc, ns) res
              refine ab_icmp_ne (tgt := 74) d_M_rivalOf_68 (by decide) (fun c9 => absurd (show (0 : Int32) = 0 from by decide) c9) (fun _ => ?_)
              refine ab_goto (tgt := 100) d_M_rivalOf_71 (by decide) ?_
              refine ab_iinc (i := 5) (v := (v5 + 1)) d_M_rivalOf_100 rfl rfl (by decide) (Or.inr rfl) ?_
              refine ab_goto (tgt := 13) d_M_rivalOf_103 (by decide) ?_
              exact h
      · have h := h.2 c5
        refine ab_callV (me2 := mt_M_isSound) (b := mx) (as := [.int v5]) (st := []) (rv := (some (.int 0))) (M2 := (I, L, ab_RR, n, nc, ns)) d_M_rivalOf_31 ce_M_isSound v_1679 v_1681 v_89 (by decide) rfl (Nat.le_of_ble_eq_true rfl) (cx_M_isSound_0 v5 hT (show (vp_in 1 399) from by unfold vp_in; decide) c5) (Nat.le_refl _) (Nat.le_refl _) hc hs (fun j h9 => by cases h9) (fun _ _ => rfl) ?_
        show ab_E w (d + 2) mt_M_rivalOf 34 [.ref mx, .int v1, .int v2, .int v3, .int v4, .int v5] [.int 0] (I, L, ab_RR, n, nc, ns) res
        refine ab_if_eq (tgt := 100) d_M_rivalOf_34 (by decide) (fun _ => ?_) (fun c9 => absurd (show (0 : Int32) = 0 from by decide) c9)
        refine ab_iinc (i := 5) (v := (v5 + 1)) d_M_rivalOf_100 rfl rfl (by decide) (Or.inr rfl) ?_
        refine ab_goto (tgt := 13) d_M_rivalOf_103 (by decide) ?_
        exact h
theorem r_M_barOf_0 {w : ab_Wd} {d n nc ns : Nat} {I : Nat → Nat → Int32} {L : Nat → Nat → Int64} {res : ab_Re} (hT : w.1.stackTraces = false) (v1 : Int32) (hc : nc ≤ res.2.2.2.2.2.1) (hs : ns ≤ res.2.2.2.2.2.2)
    (h : (((((I mx_now 1) >>> (v1 &&& 31)) &&& 1) = 1 → ((vp_in (51 + v1) 399) ∧ ab_E w (d + 1) mt_M_barOf 23 [.ref mx, .int v1, .int (I mx_now (51 + v1).toNatClampNeg), .int (-1), .int 999] [] (I, L, ab_RR, n, nc, ns) res)) ∧ (¬ (((I mx_now 1) >>> (v1 &&& 31)) &&& 1) = 1 → (res = (.inl (some (.int (-1))), (I, L, ab_RR, n, nc, ns)))))) : ab_E w (d + 1) mt_M_barOf 0 [.ref mx, .int v1, .null, .null, .null] [] (I, L, ab_RR, n, nc, ns) res := by
  refine ab_aload_n (i := 0) d_M_barOf_0 rfl rfl ?_
  refine ab_iload_n (i := 1) d_M_barOf_1 rfl rfl ?_
  by_cases c2 : (((I mx_now 1) >>> (v1 &&& 31)) &&& 1) = 1
  · have h := h.1 c2
    refine ab_callV (me2 := mt_M_isSound) (b := mx) (as := [.int v1]) (st := []) (rv := (some (.int 1))) (M2 := (I, L, ab_RR, n, nc, ns)) d_M_barOf_2 ce_M_isSound v_1679 v_1681 v_89 (by decide) rfl (Nat.le_of_ble_eq_true rfl) (cx_M_isSound_1 v1 hT (show (vp_in 1 399) from by unfold vp_in; decide) c2) (Nat.le_refl _) (Nat.le_refl _) hc hs (fun j h9 => by cases h9) (fun _ _ => rfl) ?_
    show ab_E w (d + 1) mt_M_barOf 5 [.ref mx, .int v1, .null, .null, .null] [.int 1] (I, L, ab_RR, n, nc, ns) res
    refine ab_if_ne (tgt := 10) d_M_barOf_5 (by decide) (fun _ => ?_) (fun c9 => absurd c9 (show ¬ (1 : Int32) = 0 from by decide))
    refine ab_aload_n (i := 0) d_M_barOf_10 rfl rfl ?_
    refine ab_iload_n (i := 1) d_M_barOf_11 rfl rfl ?_
    have g4 := h.1; have h := h.2
    refine ab_callV (me2 := mt_M_priceOf) (b := mx) (as := [.int v1]) (st := []) (rv := (some (.int (I mx_now (51 + v1).toNatClampNeg)))) (M2 := (I, L, ab_RR, n, nc, ns)) d_M_barOf_12 ce_M_priceOf v_1654 v_1656 v_83 (by decide) rfl (Nat.le_of_ble_eq_true rfl) (cx_M_priceOf_0 v1 hT g4) (Nat.le_refl _) (Nat.le_refl _) hc hs (fun j h9 => by cases h9) (fun _ _ => rfl) ?_
    show ab_E w (d + 1) mt_M_barOf 15 [.ref mx, .int v1, .null, .null, .null] [.int (I mx_now (51 + v1).toNatClampNeg)] (I, L, ab_RR, n, nc, ns) res
    refine ab_istore_n (i := 2) d_M_barOf_15 rfl (by decide) (Or.inr rfl) ?_
    refine ab_iconst (v := (-1)) d_M_barOf_16 rfl ?_
    refine ab_istore_n (i := 3) d_M_barOf_17 rfl (by decide) (Or.inr rfl) ?_
    refine ab_sipush (v := 999) d_M_barOf_18 rfl ?_
    refine ab_istore (i := 4) d_M_barOf_21 (by decide) (Or.inr rfl) ?_
    exact h
  · have h := h.2 c2
    refine ab_callV (me2 := mt_M_isSound) (b := mx) (as := [.int v1]) (st := []) (rv := (some (.int 0))) (M2 := (I, L, ab_RR, n, nc, ns)) d_M_barOf_2 ce_M_isSound v_1679 v_1681 v_89 (by decide) rfl (Nat.le_of_ble_eq_true rfl) (cx_M_isSound_0 v1 hT (show (vp_in 1 399) from by unfold vp_in; decide) c2) (Nat.le_refl _) (Nat.le_refl _) hc hs (fun j h9 => by cases h9) (fun _ _ => rfl) ?_
    show ab_E w (d + 1) mt_M_barOf 5 [.ref mx, .int v1, .null, .null, .null] [.int 0] (I, L, ab_RR, n, nc, ns) res
    refine ab_if_ne (tgt := 10) d_M_barOf_5 (by decide) (fun c9 => absurd (show (0 : Int32) = 0 from by decide) c9) (fun _ => ?_)
    refine ab_iconst (v := (-1)) d_M_barOf_8 rfl ?_
    exact ab_iret (ty := .int) d_M_barOf_9 rfl rfl h
theorem r_M_barOf_23 {w : ab_Wd} {d n nc ns : Nat} {I : Nat → Nat → Int32} {L : Nat → Nat → Int64} {res : ab_Re} (hT : w.1.stackTraces = false) (v1 : Int32) (v2 : Int32) (v3 : Int32) (v4 : Int32) (hc : nc ≤ res.2.2.2.2.2.1) (hs : ns ≤ res.2.2.2.2.2.2)
    (h : ((v4 ≤ 0 → ((vp_in (51 + v1) 399) ∧ res = (.inl (some (.int v3)), ((ab_up I mx_now (51 + v1).toNatClampNeg v2), L, ab_RR, n, nc, ns)))) ∧ (¬ v4 ≤ 0 → ((¬ v3 = (-1) → ((vp_in (51 + v1) 399) ∧ res = (.inl (some (.int v3)), ((ab_up I mx_now (51 + v1).toNatClampNeg v2), L, ab_RR, n, nc, ns)))) ∧ (v3 = (-1) → ((vp_in (51 + v1) 399) ∧ ∃ (r6 : Int32) (I7 : Nat → Nat → Int32), ab_C w d mt_M_netNow [.ref mx] ((ab_up I mx_now (51 + v1).toNatClampNeg v4), L, ab_RR, n, nc, ns) (.inl (some (.int r6)), (I7, L, ab_RR, n, nc, ns)) ∧ ((((r6 >>> (v1 &&& 31)) &&& 1) = 1 → (ab_E w (d + 1) mt_M_barOf 23 [.ref mx, .int v1, .int v2, .int v4, .int (v4 + (-1))] [] (I7, L, ab_RR, n, nc, ns) res)) ∧ (¬ ((r6 >>> (v1 &&& 31)) &&& 1) = 1 → (ab_E w (d + 1) mt_M_barOf 23 [.ref mx, .int v1, .int v2, .int (-1), .int (v4 + (-1))] [] (I7, L, ab_RR, n, nc, ns) res))))))))) : ab_E w (d + 1) mt_M_barOf 23 [.ref mx, .int v1, .int v2, .int v3, .int v4] [] (I, L, ab_RR, n, nc, ns) res := by
  refine ab_iload (i := 4) d_M_barOf_23 rfl ?_
  refine ab_if_le (tgt := 68) d_M_barOf_25 (by decide) (fun c1 => ?_) (fun c1 => ?_)
  · have h := h.1 c1
    refine ab_aload_n (i := 0) d_M_barOf_68 rfl rfl ?_
    refine ab_getR (ci := 11) (k := 4) (j := mx_now) d_M_barOf_69 v_1372 rfl (by decide) (by decide) rfl r_mx_4 ?_
    refine ab_bipush (v := 51) d_M_barOf_72 rfl ?_
    refine ab_iload_n (i := 1) d_M_barOf_74 rfl rfl ?_
    refine ab_iadd d_M_barOf_75 ?_
    refine ab_iload_n (i := 2) d_M_barOf_76 rfl rfl ?_
    have g2 := h.1; have h := h.2
    refine ab_iast d_M_barOf_77 rfl rfl g2 ?_
    refine ab_iload_n (i := 3) d_M_barOf_78 rfl rfl ?_
    exact ab_iret (ty := .int) d_M_barOf_79 rfl rfl h
  · have h := h.2 c1
    refine ab_iload_n (i := 3) d_M_barOf_28 rfl rfl ?_
    refine ab_iconst (v := (-1)) d_M_barOf_29 rfl ?_
    refine ab_icmp_ne (tgt := 68) d_M_barOf_30 (by decide) (fun c3 => ?_) (fun c3 => ?_)
    · have h := h.1 c3
      refine ab_aload_n (i := 0) d_M_barOf_68 rfl rfl ?_
      refine ab_getR (ci := 11) (k := 4) (j := mx_now) d_M_barOf_69 v_1372 rfl (by decide) (by decide) rfl r_mx_4 ?_
      refine ab_bipush (v := 51) d_M_barOf_72 rfl ?_
      refine ab_iload_n (i := 1) d_M_barOf_74 rfl rfl ?_
      refine ab_iadd d_M_barOf_75 ?_
      refine ab_iload_n (i := 2) d_M_barOf_76 rfl rfl ?_
      have g4 := h.1; have h := h.2
      refine ab_iast d_M_barOf_77 rfl rfl g4 ?_
      refine ab_iload_n (i := 3) d_M_barOf_78 rfl rfl ?_
      exact ab_iret (ty := .int) d_M_barOf_79 rfl rfl h
    · have h := h.2 c3
      refine ab_aload_n (i := 0) d_M_barOf_33 rfl rfl ?_
      refine ab_getR (ci := 11) (k := 4) (j := mx_now) d_M_barOf_34 v_1372 rfl (by decide) (by decide) rfl r_mx_4 ?_
      refine ab_bipush (v := 51) d_M_barOf_37 rfl ?_
      refine ab_iload_n (i := 1) d_M_barOf_39 rfl rfl ?_
      refine ab_iadd d_M_barOf_40 ?_
      refine ab_iload (i := 4) d_M_barOf_41 rfl ?_
      have g5 := h.1; have h := h.2
      refine ab_iast d_M_barOf_43 rfl rfl g5 ?_
      refine ab_aload_n (i := 0) d_M_barOf_44 rfl rfl ?_
      obtain ⟨r6, I7, hC, h⟩ := h
      refine ab_callV (me2 := mt_M_netNow) (b := mx) (as := []) (st := []) (rv := (some (.int r6))) (M2 := (I7, L, ab_RR, n, nc, ns)) d_M_barOf_45 ce_M_netNow v_1639 v_1641 v_80 (by decide) rfl (Nat.le_of_ble_eq_true rfl) hC (Nat.le_refl _) (Nat.le_refl _) hc hs (fun j h9 => by cases h9) (fun _ _ => rfl) ?_
      show ab_E w (d + 1) mt_M_barOf 48 [.ref mx, .int v1, .int v2, .int v3, .int v4] [.int r6] (I7, L, ab_RR, n, nc, ns) res
      refine ab_iload_n (i := 1) d_M_barOf_48 rfl rfl ?_
      by_cases c9 : ((r6 >>> (v1 &&& 31)) &&& 1) = 1
      · have h := h.1 c9
        refine ab_callS (me2 := mt_M_has) (as := [.int r6, .int v1]) (st := []) (rv := (some (.int 1))) (M2 := (I7, L, ab_RR, n, nc, ns)) d_M_barOf_49 ce_M_has ⟨v_1648, Or.inl v_1647⟩ (Nat.le_of_ble_eq_true rfl) (cx_M_has_1 r6 v1 hT c9) (Nat.le_refl _) (Nat.le_refl _) hc hs (fun j h9 => by cases h9) (fun _ _ => rfl) ?_
        show ab_E w (d + 1) mt_M_barOf 52 [.ref mx, .int v1, .int v2, .int v3, .int v4] [.int 1] (I7, L, ab_RR, n, nc, ns) res
        refine ab_if_eq (tgt := 60) d_M_barOf_52 (by decide) (fun c9 => absurd c9 (show ¬ (1 : Int32) = 0 from by decide)) (fun _ => ?_)
        refine ab_iload (i := 4) d_M_barOf_55 rfl ?_
        refine ab_goto (tgt := 61) d_M_barOf_57 (by decide) ?_
        refine ab_istore_n (i := 3) d_M_barOf_61 rfl (by decide) (Or.inr rfl) ?_
        refine ab_iinc (i := 4) (v := (v4 + (-1))) d_M_barOf_62 rfl rfl (by decide) (Or.inr rfl) ?_
        refine ab_goto (tgt := 23) d_M_barOf_65 (by decide) ?_
        exact h
      · have h := h.2 c9
        refine ab_callS (me2 := mt_M_has) (as := [.int r6, .int v1]) (st := []) (rv := (some (.int 0))) (M2 := (I7, L, ab_RR, n, nc, ns)) d_M_barOf_49 ce_M_has ⟨v_1648, Or.inl v_1647⟩ (Nat.le_of_ble_eq_true rfl) (cx_M_has_0 r6 v1 hT c9) (Nat.le_refl _) (Nat.le_refl _) hc hs (fun j h9 => by cases h9) (fun _ _ => rfl) ?_
        show ab_E w (d + 1) mt_M_barOf 52 [.ref mx, .int v1, .int v2, .int v3, .int v4] [.int 0] (I7, L, ab_RR, n, nc, ns) res
        refine ab_if_eq (tgt := 60) d_M_barOf_52 (by decide) (fun _ => ?_) (fun c9 => absurd (show (0 : Int32) = 0 from by decide) c9)
        refine ab_iconst (v := (-1)) d_M_barOf_60 rfl ?_
        refine ab_istore_n (i := 3) d_M_barOf_61 rfl (by decide) (Or.inr rfl) ?_
        refine ab_iinc (i := 4) (v := (v4 + (-1))) d_M_barOf_62 rfl rfl (by decide) (Or.inr rfl) ?_
        refine ab_goto (tgt := 23) d_M_barOf_65 (by decide) ?_
        exact h
theorem r_M_lossOf_0 {w : ab_Wd} {d n nc ns : Nat} {I : Nat → Nat → Int32} {L : Nat → Nat → Int64} {res : ab_Re} (hT : w.1.stackTraces = false) (v1 : Int32) (hc : nc ≤ res.2.2.2.2.2.1) (hs : ns ≤ res.2.2.2.2.2.2)
    (h : ∃ (r1 : Int32) (I2 : Nat → Nat → Int32), ab_C w d mt_M_netNow [.ref mx] (I, L, ab_RR, n, nc, ns) (.inl (some (.int r1)), (I2, L, ab_RR, n, nc, ns)) ∧ ∃ (r4 : Int32) (I5 : Nat → Nat → Int32), ab_C w d mt_M_netOf [.ref mx, .int ((I2 mx_now 1) &&& (v1 ^^^ (-1)))] (I2, L, ab_RR, n, nc, ns) (.inl (some (.int r4)), (I5, L, ab_RR, n, nc, ns)) ∧ ((((I5 mx 2) - (I5 mx 21)) ≤ ((I2 mx 2) - (I2 mx 21)) → (res = (.inl (some (.int ((I5 mx 22) - (I2 mx 22)))), (I5, L, ab_RR, n, nc, ns)))) ∧ (¬ ((I5 mx 2) - (I5 mx 21)) ≤ ((I2 mx 2) - (I2 mx 21)) → (res = (.inl (some (.int (-1))), (I5, L, ab_RR, n, nc, ns)))))) : ab_E w (d + 1) mt_M_lossOf 0 [.ref mx, .int v1, .null, .null, .null, .null] [] (I, L, ab_RR, n, nc, ns) res := by
  refine ab_aload_n (i := 0) d_M_lossOf_0 rfl rfl ?_
  obtain ⟨r1, I2, hC, h⟩ := h
  refine ab_callV (me2 := mt_M_netNow) (b := mx) (as := []) (st := []) (rv := (some (.int r1))) (M2 := (I2, L, ab_RR, n, nc, ns)) d_M_lossOf_1 ce_M_netNow v_1639 v_1641 v_80 (by decide) rfl (Nat.le_of_ble_eq_true rfl) hC (Nat.le_refl _) (Nat.le_refl _) hc hs (fun j h9 => by cases h9) (fun _ _ => rfl) ?_
  show ab_E w (d + 1) mt_M_lossOf 4 [.ref mx, .int v1, .null, .null, .null, .null] [.int r1] (I2, L, ab_RR, n, nc, ns) res
  refine ab_istore_n (i := 2) d_M_lossOf_4 rfl (by decide) (Or.inr rfl) ?_
  refine ab_aload_n (i := 0) d_M_lossOf_5 rfl rfl ?_
  refine ab_getI (ci := 11) (k := 22) d_M_lossOf_6 v_1390 rfl (by decide) (by decide) rfl ?_
  refine ab_istore_n (i := 3) d_M_lossOf_9 rfl (by decide) (Or.inr rfl) ?_
  refine ab_aload_n (i := 0) d_M_lossOf_10 rfl rfl ?_
  refine ab_callV (me2 := mt_M_pieces) (b := mx) (as := []) (st := []) (rv := (some (.int ((I2 mx 2) - (I2 mx 21))))) (M2 := (I2, L, ab_RR, n, nc, ns)) d_M_lossOf_11 ce_M_pieces v_1671 v_1673 v_87 (by decide) rfl (Nat.le_of_ble_eq_true rfl) (cx_M_pieces_0  hT) (Nat.le_refl _) (Nat.le_refl _) hc hs (fun j h9 => by cases h9) (fun _ _ => rfl) ?_
  show ab_E w (d + 1) mt_M_lossOf 14 [.ref mx, .int v1, .int r1, .int (I2 mx 22), .null, .null] [.int ((I2 mx 2) - (I2 mx 21))] (I2, L, ab_RR, n, nc, ns) res
  refine ab_istore (i := 4) d_M_lossOf_14 (by decide) (Or.inr rfl) ?_
  refine ab_aload_n (i := 0) d_M_lossOf_16 rfl rfl ?_
  refine ab_aload_n (i := 0) d_M_lossOf_17 rfl rfl ?_
  refine ab_getR (ci := 11) (k := 4) (j := mx_now) d_M_lossOf_18 v_1372 rfl (by decide) (by decide) rfl r_mx_4 ?_
  refine ab_iconst (v := 1) d_M_lossOf_21 rfl ?_
  refine ab_iald d_M_lossOf_22 rfl rfl (by unfold vp_in; decide) ?_
  refine ab_iload_n (i := 1) d_M_lossOf_23 rfl rfl ?_
  refine ab_iconst (v := (-1)) d_M_lossOf_24 rfl ?_
  refine ab_ixor d_M_lossOf_25 ?_
  refine ab_iand d_M_lossOf_26 ?_
  obtain ⟨r4, I5, hC, h⟩ := h
  refine ab_callV (me2 := mt_M_netOf) (b := mx) (as := [.int ((I2 mx_now 1) &&& (v1 ^^^ (-1)))]) (st := []) (rv := (some (.int r4))) (M2 := (I5, L, ab_RR, n, nc, ns)) d_M_lossOf_27 ce_M_netOf v_1643 v_1645 v_81 (by decide) rfl (Nat.le_of_ble_eq_true rfl) hC (Nat.le_refl _) (Nat.le_refl _) hc hs (fun j h9 => by cases h9) (fun _ _ => rfl) ?_
  show ab_E w (d + 1) mt_M_lossOf 30 [.ref mx, .int v1, .int r1, .int (I2 mx 22), .int ((I2 mx 2) - (I2 mx 21)), .null] [.int r4] (I5, L, ab_RR, n, nc, ns) res
  refine ab_istore (i := 5) d_M_lossOf_30 (by decide) (Or.inr rfl) ?_
  refine ab_aload_n (i := 0) d_M_lossOf_32 rfl rfl ?_
  refine ab_callV (me2 := mt_M_pieces) (b := mx) (as := []) (st := []) (rv := (some (.int ((I5 mx 2) - (I5 mx 21))))) (M2 := (I5, L, ab_RR, n, nc, ns)) d_M_lossOf_33 ce_M_pieces v_1671 v_1673 v_87 (by decide) rfl (Nat.le_of_ble_eq_true rfl) (cx_M_pieces_0  hT) (Nat.le_refl _) (Nat.le_refl _) hc hs (fun j h9 => by cases h9) (fun _ _ => rfl) ?_
  show ab_E w (d + 1) mt_M_lossOf 36 [.ref mx, .int v1, .int r1, .int (I2 mx 22), .int ((I2 mx 2) - (I2 mx 21)), .int r4] [.int ((I5 mx 2) - (I5 mx 21))] (I5, L, ab_RR, n, nc, ns) res
  refine ab_iload (i := 4) d_M_lossOf_36 rfl ?_
  refine ab_icmp_le (tgt := 45) d_M_lossOf_38 (by decide) (fun c7 => ?_) (fun c7 => ?_)
  · have h := h.1 c7
    refine ab_aload_n (i := 0) d_M_lossOf_45 rfl rfl ?_
    refine ab_getI (ci := 11) (k := 22) d_M_lossOf_46 v_1390 rfl (by decide) (by decide) rfl ?_
    refine ab_iload_n (i := 3) d_M_lossOf_49 rfl rfl ?_
    refine ab_isub d_M_lossOf_50 ?_
    exact ab_iret (ty := .int) d_M_lossOf_51 rfl rfl h
  · have h := h.2 c7
    refine ab_iconst (v := (-1)) d_M_lossOf_41 rfl ?_
    refine ab_goto (tgt := 51) d_M_lossOf_42 (by decide) ?_
    exact ab_iret (ty := .int) d_M_lossOf_51 rfl rfl h
theorem r_M_nextBest_0 {w : ab_Wd} {d n nc ns : Nat} {I : Nat → Nat → Int32} {L : Nat → Nat → Int64} {res : ab_Re} (hT : w.1.stackTraces = false)  (hc : nc ≤ res.2.2.2.2.2.1) (hs : ns ≤ res.2.2.2.2.2.2)
    (h : ∃ (r1 : Int32) (I2 : Nat → Nat → Int32), ab_C w d mt_M_netNow [.ref mx] (I, L, ab_RR, n, nc, ns) (.inl (some (.int r1)), (I2, L, ab_RR, n, nc, ns)) ∧ ab_E w (d + 1) mt_M_nextBest 15 [.ref mx, .int r1, .int (I2 mx 22), .int (-1), .int 0, .null, .null] [] (I2, L, ab_RR, n, nc, ns) res) : ab_E w (d + 1) mt_M_nextBest 0 [.ref mx, .null, .null, .null, .null, .null, .null] [] (I, L, ab_RR, n, nc, ns) res := by
  refine ab_aload_n (i := 0) d_M_nextBest_0 rfl rfl ?_
  obtain ⟨r1, I2, hC, h⟩ := h
  refine ab_callV (me2 := mt_M_netNow) (b := mx) (as := []) (st := []) (rv := (some (.int r1))) (M2 := (I2, L, ab_RR, n, nc, ns)) d_M_nextBest_1 ce_M_netNow v_1639 v_1641 v_80 (by decide) rfl (Nat.le_of_ble_eq_true rfl) hC (Nat.le_refl _) (Nat.le_refl _) hc hs (fun j h9 => by cases h9) (fun _ _ => rfl) ?_
  show ab_E w (d + 1) mt_M_nextBest 4 [.ref mx, .null, .null, .null, .null, .null, .null] [.int r1] (I2, L, ab_RR, n, nc, ns) res
  refine ab_istore_n (i := 1) d_M_nextBest_4 rfl (by decide) (Or.inr rfl) ?_
  refine ab_aload_n (i := 0) d_M_nextBest_5 rfl rfl ?_
  refine ab_getI (ci := 11) (k := 22) d_M_nextBest_6 v_1390 rfl (by decide) (by decide) rfl ?_
  refine ab_istore_n (i := 2) d_M_nextBest_9 rfl (by decide) (Or.inr rfl) ?_
  refine ab_iconst (v := (-1)) d_M_nextBest_10 rfl ?_
  refine ab_istore_n (i := 3) d_M_nextBest_11 rfl (by decide) (Or.inr rfl) ?_
  refine ab_iconst (v := 0) d_M_nextBest_12 rfl ?_
  refine ab_istore (i := 4) d_M_nextBest_13 (by decide) (Or.inr rfl) ?_
  exact h
theorem r_M_nextBest_15 {w : ab_Wd} {d n nc ns : Nat} {I : Nat → Nat → Int32} {L : Nat → Nat → Int64} {res : ab_Re} (hT : w.1.stackTraces = false) (v1 : Int32) (v2 : Int32) (v3 : Int32) (v4 : Int32) (hc : nc ≤ res.2.2.2.2.2.1) (hs : ns ≤ res.2.2.2.2.2.2)
    (h : (((I mx_now 0) ≤ v4 → (res = (.inl (some (.int v3)), (I, L, ab_RR, n, nc, ns)))) ∧ (¬ (I mx_now 0) ≤ v4 → (((((I mx_now 1) >>> (v4 &&& 31)) &&& 1) = 1 → ((((v1 >>> (v4 &&& 31)) &&& 1) = 1 → (ab_E w (d + 1) mt_M_nextBest 15 [.ref mx, .int v1, .int v2, .int v3, .int (v4 + 1), .null, .null] [] (I, L, ab_RR, n, nc, ns) res)) ∧ (¬ ((v1 >>> (v4 &&& 31)) &&& 1) = 1 → (∃ (r7 : Int32) (I8 : Nat → Nat → Int32), ab_C w d mt_M_tellRing [.ref mx, .int v1, .int v4] (I, L, ab_RR, n, nc, ns) (.inl (some (.int r7)), (I8, L, ab_RR, n, nc, ns)) ∧ (vp_in (51 + v4) 399) ∧ ∃ (r11 : Int32), ab_C w d mt_M_dearestOnWay [.ref mx] (I8, L, ab_RR, n, nc, ns) (.inl (some (.int r11)), (I8, L, ab_RR, n, nc, ns)) ∧ (vp_in (51 + r11) 399) ∧ ((¬ v3 = (-1) → (ab_E w (d + 1) mt_M_nextBest 15 [.ref mx, .int v1, .int v2, .int (ab_min32 v3 ((v2 + (I8 mx_now (51 + v4).toNatClampNeg)) - (I8 mx_now (51 + r11).toNatClampNeg))), .int (v4 + 1), .null, .null] [] (I8, L, ab_RR, n, nc, ns) res)) ∧ (v3 = (-1) → (ab_E w (d + 1) mt_M_nextBest 15 [.ref mx, .int v1, .int v2, .int ((v2 + (I8 mx_now (51 + v4).toNatClampNeg)) - (I8 mx_now (51 + r11).toNatClampNeg)), .int (v4 + 1), .null, .null] [] (I8, L, ab_RR, n, nc, ns) res))))))) ∧ (¬ (((I mx_now 1) >>> (v4 &&& 31)) &&& 1) = 1 → (ab_E w (d + 1) mt_M_nextBest 15 [.ref mx, .int v1, .int v2, .int v3, .int (v4 + 1), .null, .null] [] (I, L, ab_RR, n, nc, ns) res)))))) : ab_E w (d + 1) mt_M_nextBest 15 [.ref mx, .int v1, .int v2, .int v3, .int v4, .null, .null] [] (I, L, ab_RR, n, nc, ns) res := by
  refine ab_iload (i := 4) d_M_nextBest_15 rfl ?_
  refine ab_aload_n (i := 0) d_M_nextBest_17 rfl rfl ?_
  refine ab_callV (me2 := mt_M_many) (b := mx) (as := []) (st := [.int v4]) (rv := (some (.int (I mx_now 0)))) (M2 := (I, L, ab_RR, n, nc, ns)) d_M_nextBest_18 ce_M_many v_1635 v_1637 v_79 (by decide) rfl (Nat.le_of_ble_eq_true rfl) (cx_M_many_0  hT (show (vp_in 0 399) from by unfold vp_in; decide)) (Nat.le_refl _) (Nat.le_refl _) hc hs (fun j h9 => by cases h9) (fun _ _ => rfl) ?_
  show ab_E w (d + 1) mt_M_nextBest 21 [.ref mx, .int v1, .int v2, .int v3, .int v4, .null, .null] [.int (I mx_now 0), .int v4] (I, L, ab_RR, n, nc, ns) res
  refine ab_icmp_ge (tgt := 96) d_M_nextBest_21 (by decide) (fun c2 => ?_) (fun c2 => ?_)
  · have h := h.1 c2
    refine ab_iload_n (i := 3) d_M_nextBest_96 rfl rfl ?_
    exact ab_iret (ty := .int) d_M_nextBest_97 rfl rfl h
  · have h := h.2 c2
    refine ab_aload_n (i := 0) d_M_nextBest_24 rfl rfl ?_
    refine ab_iload (i := 4) d_M_nextBest_25 rfl ?_
    by_cases c4 : (((I mx_now 1) >>> (v4 &&& 31)) &&& 1) = 1
    · have h := h.1 c4
      refine ab_callV (me2 := mt_M_isSound) (b := mx) (as := [.int v4]) (st := []) (rv := (some (.int 1))) (M2 := (I, L, ab_RR, n, nc, ns)) d_M_nextBest_27 ce_M_isSound v_1679 v_1681 v_89 (by decide) rfl (Nat.le_of_ble_eq_true rfl) (cx_M_isSound_1 v4 hT (show (vp_in 1 399) from by unfold vp_in; decide) c4) (Nat.le_refl _) (Nat.le_refl _) hc hs (fun j h9 => by cases h9) (fun _ _ => rfl) ?_
      show ab_E w (d + 1) mt_M_nextBest 30 [.ref mx, .int v1, .int v2, .int v3, .int v4, .null, .null] [.int 1] (I, L, ab_RR, n, nc, ns) res
      refine ab_if_eq (tgt := 90) d_M_nextBest_30 (by decide) (fun c9 => absurd c9 (show ¬ (1 : Int32) = 0 from by decide)) (fun _ => ?_)
      refine ab_iload_n (i := 1) d_M_nextBest_33 rfl rfl ?_
      refine ab_iload (i := 4) d_M_nextBest_34 rfl ?_
      by_cases c6 : ((v1 >>> (v4 &&& 31)) &&& 1) = 1
      · have h := h.1 c6
        refine ab_callS (me2 := mt_M_has) (as := [.int v1, .int v4]) (st := []) (rv := (some (.int 1))) (M2 := (I, L, ab_RR, n, nc, ns)) d_M_nextBest_36 ce_M_has ⟨v_1648, Or.inl v_1647⟩ (Nat.le_of_ble_eq_true rfl) (cx_M_has_1 v1 v4 hT c6) (Nat.le_refl _) (Nat.le_refl _) hc hs (fun j h9 => by cases h9) (fun _ _ => rfl) ?_
        show ab_E w (d + 1) mt_M_nextBest 39 [.ref mx, .int v1, .int v2, .int v3, .int v4, .null, .null] [.int 1] (I, L, ab_RR, n, nc, ns) res
        refine ab_if_eq (tgt := 45) d_M_nextBest_39 (by decide) (fun c9 => absurd c9 (show ¬ (1 : Int32) = 0 from by decide)) (fun _ => ?_)
        refine ab_goto (tgt := 90) d_M_nextBest_42 (by decide) ?_
        refine ab_iinc (i := 4) (v := (v4 + 1)) d_M_nextBest_90 rfl rfl (by decide) (Or.inr rfl) ?_
        refine ab_goto (tgt := 15) d_M_nextBest_93 (by decide) ?_
        exact h
      · have h := h.2 c6
        refine ab_callS (me2 := mt_M_has) (as := [.int v1, .int v4]) (st := []) (rv := (some (.int 0))) (M2 := (I, L, ab_RR, n, nc, ns)) d_M_nextBest_36 ce_M_has ⟨v_1648, Or.inl v_1647⟩ (Nat.le_of_ble_eq_true rfl) (cx_M_has_0 v1 v4 hT c6) (Nat.le_refl _) (Nat.le_refl _) hc hs (fun j h9 => by cases h9) (fun _ _ => rfl) ?_
        show ab_E w (d + 1) mt_M_nextBest 39 [.ref mx, .int v1, .int v2, .int v3, .int v4, .null, .null] [.int 0] (I, L, ab_RR, n, nc, ns) res
        refine ab_if_eq (tgt := 45) d_M_nextBest_39 (by decide) (fun _ => ?_) (fun c9 => absurd (show (0 : Int32) = 0 from by decide) c9)
        refine ab_aload_n (i := 0) d_M_nextBest_45 rfl rfl ?_
        refine ab_iload_n (i := 1) d_M_nextBest_46 rfl rfl ?_
        refine ab_iload (i := 4) d_M_nextBest_47 rfl ?_
        obtain ⟨r7, I8, hC, h⟩ := h
        refine ab_callV (me2 := mt_M_tellRing) (b := mx) (as := [.int v1, .int v4]) (st := []) (rv := (some (.int r7))) (M2 := (I8, L, ab_RR, n, nc, ns)) d_M_nextBest_49 ce_M_tellRing v_1683 v_1685 v_90 (by decide) rfl (Nat.le_of_ble_eq_true rfl) hC (Nat.le_refl _) (Nat.le_refl _) hc hs (fun j h9 => by cases h9) (fun _ _ => rfl) ?_
        show ab_E w (d + 1) mt_M_nextBest 52 [.ref mx, .int v1, .int v2, .int v3, .int v4, .null, .null] [.int r7] (I8, L, ab_RR, n, nc, ns) res
        refine ab_istore (i := 5) d_M_nextBest_52 (by decide) (Or.inr rfl) ?_
        refine ab_iload_n (i := 2) d_M_nextBest_54 rfl rfl ?_
        refine ab_aload_n (i := 0) d_M_nextBest_55 rfl rfl ?_
        refine ab_iload (i := 4) d_M_nextBest_56 rfl ?_
        have g10 := h.1; have h := h.2
        refine ab_callV (me2 := mt_M_priceOf) (b := mx) (as := [.int v4]) (st := [.int v2]) (rv := (some (.int (I8 mx_now (51 + v4).toNatClampNeg)))) (M2 := (I8, L, ab_RR, n, nc, ns)) d_M_nextBest_58 ce_M_priceOf v_1654 v_1656 v_83 (by decide) rfl (Nat.le_of_ble_eq_true rfl) (cx_M_priceOf_0 v4 hT g10) (Nat.le_refl _) (Nat.le_refl _) hc hs (fun j h9 => by cases h9) (fun _ _ => rfl) ?_
        show ab_E w (d + 1) mt_M_nextBest 61 [.ref mx, .int v1, .int v2, .int v3, .int v4, .int r7, .null] [.int (I8 mx_now (51 + v4).toNatClampNeg), .int v2] (I8, L, ab_RR, n, nc, ns) res
        refine ab_iadd d_M_nextBest_61 ?_
        refine ab_aload_n (i := 0) d_M_nextBest_62 rfl rfl ?_
        refine ab_aload_n (i := 0) d_M_nextBest_63 rfl rfl ?_
        obtain ⟨r11, hC, h⟩ := h
        refine ab_callV (me2 := mt_M_dearestOnWay) (b := mx) (as := []) (st := [.ref mx, .int (v2 + (I8 mx_now (51 + v4).toNatClampNeg))]) (rv := (some (.int r11))) (M2 := (I8, L, ab_RR, n, nc, ns)) d_M_nextBest_64 ce_M_dearestOnWay v_1695 v_1697 v_93 (by decide) rfl (Nat.le_of_ble_eq_true rfl) hC (Nat.le_refl _) (Nat.le_refl _) hc hs (fun j h9 => by cases h9) (fun _ _ => rfl) ?_
        show ab_E w (d + 1) mt_M_nextBest 67 [.ref mx, .int v1, .int v2, .int v3, .int v4, .int r7, .null] [.int r11, .ref mx, .int (v2 + (I8 mx_now (51 + v4).toNatClampNeg))] (I8, L, ab_RR, n, nc, ns) res
        have g13 := h.1; have h := h.2
        refine ab_callV (me2 := mt_M_priceOf) (b := mx) (as := [.int r11]) (st := [.int (v2 + (I8 mx_now (51 + v4).toNatClampNeg))]) (rv := (some (.int (I8 mx_now (51 + r11).toNatClampNeg)))) (M2 := (I8, L, ab_RR, n, nc, ns)) d_M_nextBest_67 ce_M_priceOf v_1654 v_1656 v_83 (by decide) rfl (Nat.le_of_ble_eq_true rfl) (cx_M_priceOf_0 r11 hT g13) (Nat.le_refl _) (Nat.le_refl _) hc hs (fun j h9 => by cases h9) (fun _ _ => rfl) ?_
        show ab_E w (d + 1) mt_M_nextBest 70 [.ref mx, .int v1, .int v2, .int v3, .int v4, .int r7, .null] [.int (I8 mx_now (51 + r11).toNatClampNeg), .int (v2 + (I8 mx_now (51 + v4).toNatClampNeg))] (I8, L, ab_RR, n, nc, ns) res
        refine ab_isub d_M_nextBest_70 ?_
        refine ab_istore (i := 6) d_M_nextBest_71 (by decide) (Or.inr rfl) ?_
        refine ab_iload_n (i := 3) d_M_nextBest_73 rfl rfl ?_
        refine ab_iconst (v := (-1)) d_M_nextBest_74 rfl ?_
        refine ab_icmp_ne (tgt := 83) d_M_nextBest_75 (by decide) (fun c14 => ?_) (fun c14 => ?_)
        · have h := h.1 c14
          refine ab_iload_n (i := 3) d_M_nextBest_83 rfl rfl ?_
          refine ab_iload (i := 6) d_M_nextBest_84 rfl ?_
          refine ab_min d_M_nextBest_86 v_1581 v_448 v_150 v_449 (Nat.succ_le_succ (Nat.zero_le _)) (Nat.le_of_ble_eq_true rfl) hc hs ?_
          refine ab_istore_n (i := 3) d_M_nextBest_89 rfl (by decide) (Or.inr rfl) ?_
          refine ab_iinc (i := 4) (v := (v4 + 1)) d_M_nextBest_90 rfl rfl (by decide) (Or.inr rfl) ?_
          refine ab_goto (tgt := 15) d_M_nextBest_93 (by decide) ?_
          refine ab_drop 5 ?_
          refine ab_drop 6 ?_
          exact h
        · have h := h.2 c14
          refine ab_iload (i := 6) d_M_nextBest_78 rfl ?_
          refine ab_goto (tgt := 89) d_M_nextBest_80 (by decide) ?_
          refine ab_istore_n (i := 3) d_M_nextBest_89 rfl (by decide) (Or.inr rfl) ?_
          refine ab_iinc (i := 4) (v := (v4 + 1)) d_M_nextBest_90 rfl rfl (by decide) (Or.inr rfl) ?_
          refine ab_goto (tgt := 15) d_M_nextBest_93 (by decide) ?_
          refine ab_drop 5 ?_
          refine ab_drop 6 ?_
          exact h
    · have h := h.2 c4
      refine ab_callV (me2 := mt_M_isSound) (b := mx) (as := [.int v4]) (st := []) (rv := (some (.int 0))) (M2 := (I, L, ab_RR, n, nc, ns)) d_M_nextBest_27 ce_M_isSound v_1679 v_1681 v_89 (by decide) rfl (Nat.le_of_ble_eq_true rfl) (cx_M_isSound_0 v4 hT (show (vp_in 1 399) from by unfold vp_in; decide) c4) (Nat.le_refl _) (Nat.le_refl _) hc hs (fun j h9 => by cases h9) (fun _ _ => rfl) ?_
      show ab_E w (d + 1) mt_M_nextBest 30 [.ref mx, .int v1, .int v2, .int v3, .int v4, .null, .null] [.int 0] (I, L, ab_RR, n, nc, ns) res
      refine ab_if_eq (tgt := 90) d_M_nextBest_30 (by decide) (fun _ => ?_) (fun c9 => absurd (show (0 : Int32) = 0 from by decide) c9)
      refine ab_iinc (i := 4) (v := (v4 + 1)) d_M_nextBest_90 rfl rfl (by decide) (Or.inr rfl) ?_
      refine ab_goto (tgt := 15) d_M_nextBest_93 (by decide) ?_
      exact h
