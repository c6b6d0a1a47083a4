theorem r_M_netOf_0 {w : ab_Wd} {d n nc ns : Nat} {I : Nat → Nat → Int32} {L : Nat → Nat → Int64} {res : ab_Re} (hT : w.1.stackTraces = false) (v1 : Int32) (hc : nc ≤ res.2.2.2.2.2.1) (hs : ns ≤ res.2.2.2.2.2.2)
    (h : ab_E w (d + 2) mt_M_netOf 17 [.ref mx, .int v1, .int v1, .int 0, .int 0, .null] [] ((ab_up (ab_up I mx 21 0) mx 22 0), L, ab_RR, n, nc, ns) res) : ab_E w (d + 2) mt_M_netOf 0 [.ref mx, .int v1, .null, .null, .null, .null] [] (I, L, ab_RR, n, nc, ns) res := by
  refine ab_iload_n (i := 1) d_M_netOf_0 rfl rfl ?_
  refine ab_istore_n (i := 2) d_M_netOf_1 rfl (by decide) (Or.inr rfl) ?_
  refine ab_iconst (v := 0) d_M_netOf_2 rfl ?_
  refine ab_istore_n (i := 3) d_M_netOf_3 rfl (by decide) (Or.inr rfl) ?_
  refine ab_aload_n (i := 0) d_M_netOf_4 rfl rfl ?_
  refine ab_iconst (v := 0) d_M_netOf_5 rfl ?_
  refine ab_putI (ci := 11) (k := 21) d_M_netOf_6 v_1389 rfl (by decide) (by decide) rfl (Or.inl rfl) rfl rfl ?_
  refine ab_aload_n (i := 0) d_M_netOf_9 rfl rfl ?_
  refine ab_iconst (v := 0) d_M_netOf_10 rfl ?_
  refine ab_putI (ci := 11) (k := 22) d_M_netOf_11 v_1390 rfl (by decide) (by decide) rfl (Or.inl rfl) rfl rfl ?_
  refine ab_iconst (v := 0) d_M_netOf_14 rfl ?_
  refine ab_istore (i := 4) d_M_netOf_15 (by decide) (Or.inr rfl) ?_
  exact h
theorem r_M_netOf_17 {w : ab_Wd} {d n nc ns : Nat} {I : Nat → Nat → Int32} {L : Nat → Nat → Int64} {res : ab_Re} (hT : w.1.stackTraces = false) (v1 : Int32) (v2 : Int32) (v3 : Int32) (v4 : Int32) (hc : nc ≤ res.2.2.2.2.2.1) (hs : ns ≤ res.2.2.2.2.2.2)
    (h : (((I mx 2) ≤ v4 → (ab_E w (d + 2) mt_M_netOf 41 [.ref mx, .int v1, .int v2, .int v3, .int v4, .null] [] (I, L, ab_RR, n, nc, ns) res)) ∧ (¬ (I mx 2) ≤ v4 → ((vp_in v4 10) ∧ ab_E w (d + 2) mt_M_netOf 17 [.ref mx, .int v1, .int v2, .int v3, .int (v4 + 1), .null] [] ((ab_up I mx_piece v4.toNatClampNeg v4), L, ab_RR, n, nc, ns) res)))) : ab_E w (d + 2) mt_M_netOf 17 [.ref mx, .int v1, .int v2, .int v3, .int v4, .null] [] (I, L, ab_RR, n, nc, ns) res := by
  refine ab_iload (i := 4) d_M_netOf_17 rfl ?_
  refine ab_aload_n (i := 0) d_M_netOf_19 rfl rfl ?_
  refine ab_getI (ci := 11) (k := 2) d_M_netOf_20 v_1370 rfl (by decide) (by decide) rfl ?_
  refine ab_icmp_ge (tgt := 41) d_M_netOf_23 (by decide) (fun c1 => ?_) (fun c1 => ?_)
  · have h := h.1 c1
    exact h
  · have h := h.2 c1
    refine ab_aload_n (i := 0) d_M_netOf_26 rfl rfl ?_
    refine ab_getR (ci := 11) (k := 19) (j := mx_piece) d_M_netOf_27 v_1387 rfl (by decide) (by decide) rfl r_mx_19 ?_
    refine ab_iload (i := 4) d_M_netOf_30 rfl ?_
    refine ab_iload (i := 4) d_M_netOf_32 rfl ?_
    have g2 := h.1; have h := h.2
    refine ab_iast d_M_netOf_34 rfl rfl g2 ?_
    refine ab_iinc (i := 4) (v := (v4 + 1)) d_M_netOf_35 rfl rfl (by decide) (Or.inr rfl) ?_
    refine ab_goto (tgt := 17) d_M_netOf_38 (by decide) ?_
    exact h
theorem r_M_netOf_41 {w : ab_Wd} {d n nc ns : Nat} {I : Nat → Nat → Int32} {L : Nat → Nat → Int64} {res : ab_Re} (hT : w.1.stackTraces = false) (v1 : Int32) (v2 : Int32) (v3 : Int32) (v4 : Int32) (hc : nc ≤ res.2.2.2.2.2.1) (hs : ns ≤ res.2.2.2.2.2.2)
    (h : ((v2 = 0 → (res = (.inl (some (.int v3)), (I, L, ab_RR, n, nc, ns)))) ∧ (¬ v2 = 0 → (ab_E w (d + 2) mt_M_netOf 51 [.ref mx, .int v1, .int v2, .int v3, .int (-1), .int 0] [] (I, L, ab_RR, n, nc, ns) res)))) : ab_E w (d + 2) mt_M_netOf 41 [.ref mx, .int v1, .int v2, .int v3, .int v4, .null] [] (I, L, ab_RR, n, nc, ns) res := by
  refine ab_iload_n (i := 2) d_M_netOf_41 rfl rfl ?_
  refine ab_if_eq (tgt := 209) d_M_netOf_42 (by decide) (fun c1 => ?_) (fun c1 => ?_)
  · have h := h.1 c1
    refine ab_iload_n (i := 3) d_M_netOf_209 rfl rfl ?_
    exact ab_iret (ty := .int) d_M_netOf_210 rfl rfl h
  · have h := h.2 c1
    refine ab_iconst (v := (-1)) d_M_netOf_45 rfl ?_
    refine ab_istore (i := 4) d_M_netOf_46 (by decide) (Or.inr rfl) ?_
    refine ab_iconst (v := 0) d_M_netOf_48 rfl ?_
    refine ab_istore (i := 5) d_M_netOf_49 (by decide) (Or.inr rfl) ?_
    exact h
theorem r_M_netOf_51 {w : ab_Wd} {d n nc ns : Nat} {I : Nat → Nat → Int32} {L : Nat → Nat → Int64} {res : ab_Re} (hT : w.1.stackTraces = false) (v1 : Int32) (v2 : Int32) (v3 : Int32) (v4 : Int32) (v5 : Int32) (hc : nc ≤ res.2.2.2.2.2.1) (hs : ns ≤ res.2.2.2.2.2.2)
    (h : (((I mx_now 0) ≤ v5 → ((vp_in (3 + v4) 399) ∧ (vp_in (I mx_now (3 + v4).toNatClampNeg) 10) ∧ (vp_in (27 + v4) 399) ∧ (vp_in (I mx_now (27 + v4).toNatClampNeg) 10) ∧ ((¬ (I mx_piece (I mx_now (3 + v4).toNatClampNeg).toNatClampNeg) = (I mx_piece (I mx_now (27 + v4).toNatClampNeg).toNatClampNeg) → (∃ (I9 : Nat → Nat → Int32), ab_C w (d + 1) mt_M_joins [.ref mx, .int (I mx_now (3 + v4).toNatClampNeg), .int (I mx_now (27 + v4).toNatClampNeg)] (I, L, ab_RR, n, nc, ns) (.inl none, (I9, L, ab_RR, n, nc, ns)) ∧ (vp_in (I9 mx 21) 24) ∧ (vp_in (51 + v4) 399) ∧ ab_E w (d + 2) mt_M_netOf 41 [.ref mx, .int v1, .int (v2 &&& (((1 : Int32) <<< (v4 &&& 31)) ^^^ (-1))), .int (v3 ||| ((1 : Int32) <<< (v4 &&& 31))), .int v4, .null] [] ((ab_up (ab_up (ab_up I9 mx_taken (I9 mx 21).toNatClampNeg v4) mx 21 ((I9 mx 21) + 1)) mx 22 ((I9 mx 22) + (I9 mx_now (51 + v4).toNatClampNeg))), L, ab_RR, n, nc, ns) res)) ∧ ((I mx_piece (I mx_now (3 + v4).toNatClampNeg).toNatClampNeg) = (I mx_piece (I mx_now (27 + v4).toNatClampNeg).toNatClampNeg) → (ab_E w (d + 2) mt_M_netOf 41 [.ref mx, .int v1, .int (v2 &&& (((1 : Int32) <<< (v4 &&& 31)) ^^^ (-1))), .int v3, .int v4, .null] [] (I, L, ab_RR, n, nc, ns) res))))) ∧ (¬ (I mx_now 0) ≤ v5 → ((((v2 >>> (v5 &&& 31)) &&& 1) = 1 → ((v4 = (-1) → (ab_E w (d + 2) mt_M_netOf 51 [.ref mx, .int v1, .int v2, .int v3, .int v5, .int (v5 + 1)] [] (I, L, ab_RR, n, nc, ns) res)) ∧ (¬ v4 = (-1) → ((vp_in (51 + v5) 399) ∧ (vp_in (51 + v4) 399) ∧ (((I mx_now (51 + v5).toNatClampNeg) < (I mx_now (51 + v4).toNatClampNeg) → (ab_E w (d + 2) mt_M_netOf 51 [.ref mx, .int v1, .int v2, .int v3, .int v5, .int (v5 + 1)] [] (I, L, ab_RR, n, nc, ns) res)) ∧ (¬ (I mx_now (51 + v5).toNatClampNeg) < (I mx_now (51 + v4).toNatClampNeg) → (((I mx_now (51 + v5).toNatClampNeg) = (I mx_now (51 + v4).toNatClampNeg) → ((v4 ≤ v5 → (ab_E w (d + 2) mt_M_netOf 51 [.ref mx, .int v1, .int v2, .int v3, .int v4, .int (v5 + 1)] [] (I, L, ab_RR, n, nc, ns) res)) ∧ (¬ v4 ≤ v5 → (ab_E w (d + 2) mt_M_netOf 51 [.ref mx, .int v1, .int v2, .int v3, .int v5, .int (v5 + 1)] [] (I, L, ab_RR, n, nc, ns) res)))) ∧ (¬ (I mx_now (51 + v5).toNatClampNeg) = (I mx_now (51 + v4).toNatClampNeg) → (ab_E w (d + 2) mt_M_netOf 51 [.ref mx, .int v1, .int v2, .int v3, .int v4, .int (v5 + 1)] [] (I, L, ab_RR, n, nc, ns) res))))))))) ∧ (¬ ((v2 >>> (v5 &&& 31)) &&& 1) = 1 → (ab_E w (d + 2) mt_M_netOf 51 [.ref mx, .int v1, .int v2, .int v3, .int v4, .int (v5 + 1)] [] (I, L, ab_RR, n, nc, ns) res)))))) : ab_E w (d + 2) mt_M_netOf 51 [.ref mx, .int v1, .int v2, .int v3, .int v4, .int v5] [] (I, L, ab_RR, n, nc, ns) res := by
  refine ab_iload (i := 5) d_M_netOf_51 rfl ?_
  refine ab_aload_n (i := 0) d_M_netOf_53 rfl rfl ?_
  refine ab_callV (me2 := mt_M_many) (b := mx) (as := []) (st := [.int v5]) (rv := (some (.int (I mx_now 0)))) (M2 := (I, L, ab_RR, n, nc, ns)) d_M_netOf_54 ce_M_many v_1635 v_1637 v_79 (by decide) rfl (Nat.le_of_ble_eq_true rfl) (cx_M_many_0  hT (show (vp_in 0 399) from by unfold vp_in; decide)) (Nat.le_refl _) (Nat.le_refl _) hc hs (fun j h9 => by cases h9) (fun _ _ => rfl) ?_
  show ab_E w (d + 2) mt_M_netOf 57 [.ref mx, .int v1, .int v2, .int v3, .int v4, .int v5] [.int (I mx_now 0), .int v5] (I, L, ab_RR, n, nc, ns) res
  refine ab_icmp_ge (tgt := 96) d_M_netOf_57 (by decide) (fun c2 => ?_) (fun c2 => ?_)
  · have h := h.1 c2
    refine ab_iload_n (i := 2) d_M_netOf_96 rfl rfl ?_
    refine ab_iconst (v := 1) d_M_netOf_97 rfl ?_
    refine ab_iload (i := 4) d_M_netOf_98 rfl ?_
    refine ab_ishl d_M_netOf_100 ?_
    refine ab_iconst (v := (-1)) d_M_netOf_101 rfl ?_
    refine ab_ixor d_M_netOf_102 ?_
    refine ab_iand d_M_netOf_103 ?_
    refine ab_istore_n (i := 2) d_M_netOf_104 rfl (by decide) (Or.inr rfl) ?_
    refine ab_aload_n (i := 0) d_M_netOf_105 rfl rfl ?_
    refine ab_getR (ci := 11) (k := 19) (j := mx_piece) d_M_netOf_106 v_1387 rfl (by decide) (by decide) rfl r_mx_19 ?_
    refine ab_aload_n (i := 0) d_M_netOf_109 rfl rfl ?_
    refine ab_getR (ci := 11) (k := 4) (j := mx_now) d_M_netOf_110 v_1372 rfl (by decide) (by decide) rfl r_mx_4 ?_
    refine ab_iconst (v := 3) d_M_netOf_113 rfl ?_
    refine ab_iload (i := 4) d_M_netOf_114 rfl ?_
    refine ab_iadd d_M_netOf_116 ?_
    have g3 := h.1; have h := h.2
    refine ab_iald d_M_netOf_117 rfl rfl g3 ?_
    have g4 := h.1; have h := h.2
    refine ab_iald d_M_netOf_118 rfl rfl g4 ?_
    refine ab_aload_n (i := 0) d_M_netOf_119 rfl rfl ?_
    refine ab_getR (ci := 11) (k := 19) (j := mx_piece) d_M_netOf_120 v_1387 rfl (by decide) (by decide) rfl r_mx_19 ?_
    refine ab_aload_n (i := 0) d_M_netOf_123 rfl rfl ?_
    refine ab_getR (ci := 11) (k := 4) (j := mx_now) d_M_netOf_124 v_1372 rfl (by decide) (by decide) rfl r_mx_4 ?_
    refine ab_bipush (v := 27) d_M_netOf_127 rfl ?_
    refine ab_iload (i := 4) d_M_netOf_129 rfl ?_
    refine ab_iadd d_M_netOf_131 ?_
    have g5 := h.1; have h := h.2
    refine ab_iald d_M_netOf_132 rfl rfl g5 ?_
    have g6 := h.1; have h := h.2
    refine ab_iald d_M_netOf_133 rfl rfl g6 ?_
    refine ab_icmp_ne (tgt := 140) d_M_netOf_134 (by decide) (fun c7 => ?_) (fun c7 => ?_)
    · have h := h.1 c7
      refine ab_aload_n (i := 0) d_M_netOf_140 rfl rfl ?_
      refine ab_aload_n (i := 0) d_M_netOf_141 rfl rfl ?_
      refine ab_getR (ci := 11) (k := 4) (j := mx_now) d_M_netOf_142 v_1372 rfl (by decide) (by decide) rfl r_mx_4 ?_
      refine ab_iconst (v := 3) d_M_netOf_145 rfl ?_
      refine ab_iload (i := 4) d_M_netOf_146 rfl ?_
      refine ab_iadd d_M_netOf_148 ?_
      refine ab_iald d_M_netOf_149 rfl rfl g3 ?_
      refine ab_aload_n (i := 0) d_M_netOf_150 rfl rfl ?_
      refine ab_getR (ci := 11) (k := 4) (j := mx_now) d_M_netOf_151 v_1372 rfl (by decide) (by decide) rfl r_mx_4 ?_
      refine ab_bipush (v := 27) d_M_netOf_154 rfl ?_
      refine ab_iload (i := 4) d_M_netOf_156 rfl ?_
      refine ab_iadd d_M_netOf_158 ?_
      refine ab_iald d_M_netOf_159 rfl rfl g5 ?_
      obtain ⟨I9, hC, h⟩ := h
      refine ab_callV (me2 := mt_M_joins) (b := mx) (as := [.int (I mx_now (3 + v4).toNatClampNeg), .int (I mx_now (27 + v4).toNatClampNeg)]) (st := []) (rv := none) (M2 := (I9, L, ab_RR, n, nc, ns)) d_M_netOf_160 ce_M_joins v_1658 v_1660 v_84 (by decide) rfl (Nat.le_of_ble_eq_true rfl) hC (Nat.le_refl _) (Nat.le_refl _) hc hs (fun j h9 => by cases h9) (fun _ _ => rfl) ?_
      show ab_E w (d + 2) mt_M_netOf 163 [.ref mx, .int v1, .int (v2 &&& (((1 : Int32) <<< (v4 &&& 31)) ^^^ (-1))), .int v3, .int v4, .int v5] [] (I9, L, ab_RR, n, nc, ns) res
      refine ab_iload_n (i := 3) d_M_netOf_163 rfl rfl ?_
      refine ab_iconst (v := 1) d_M_netOf_164 rfl ?_
      refine ab_iload (i := 4) d_M_netOf_165 rfl ?_
      refine ab_ishl d_M_netOf_167 ?_
      refine ab_ior d_M_netOf_168 ?_
      refine ab_istore_n (i := 3) d_M_netOf_169 rfl (by decide) (Or.inr rfl) ?_
      refine ab_aload_n (i := 0) d_M_netOf_170 rfl rfl ?_
      refine ab_getR (ci := 11) (k := 20) (j := mx_taken) d_M_netOf_171 v_1388 rfl (by decide) (by decide) rfl r_mx_20 ?_
      refine ab_aload_n (i := 0) d_M_netOf_174 rfl rfl ?_
      refine ab_getI (ci := 11) (k := 21) d_M_netOf_175 v_1389 rfl (by decide) (by decide) rfl ?_
      refine ab_iload (i := 4) d_M_netOf_178 rfl ?_
      have g10 := h.1; have h := h.2
      refine ab_iast d_M_netOf_180 rfl rfl g10 ?_
      refine ab_aload_n (i := 0) d_M_netOf_181 rfl rfl ?_
      refine ab_dupr d_M_netOf_182 ?_
      refine ab_getI (ci := 11) (k := 21) d_M_netOf_183 v_1389 rfl (by decide) (by decide) rfl ?_
      refine ab_iconst (v := 1) d_M_netOf_186 rfl ?_
      refine ab_iadd d_M_netOf_187 ?_
      refine ab_putI (ci := 11) (k := 21) d_M_netOf_188 v_1389 rfl (by decide) (by decide) rfl (Or.inl rfl) rfl rfl ?_
      refine ab_aload_n (i := 0) d_M_netOf_191 rfl rfl ?_
      refine ab_dupr d_M_netOf_192 ?_
      refine ab_getI (ci := 11) (k := 22) d_M_netOf_193 v_1390 rfl (by decide) (by decide) rfl ?_
      refine ab_aload_n (i := 0) d_M_netOf_196 rfl rfl ?_
      refine ab_iload (i := 4) d_M_netOf_197 rfl ?_
      have g12 := h.1; have h := h.2
      refine ab_callV (me2 := mt_M_priceOf) (b := mx) (as := [.int v4]) (st := [.int (I9 mx 22), .ref mx]) (rv := (some (.int (I9 mx_now (51 + v4).toNatClampNeg)))) (M2 := ((ab_up (ab_up I9 mx_taken (I9 mx 21).toNatClampNeg v4) mx 21 ((I9 mx 21) + 1)), L, ab_RR, n, nc, ns)) d_M_netOf_199 ce_M_priceOf v_1654 v_1656 v_83 (by decide) rfl (Nat.le_of_ble_eq_true rfl) (cx_M_priceOf_0 v4 hT g12) (Nat.le_refl _) (Nat.le_refl _) hc hs (fun j h9 => by cases h9) (fun _ _ => rfl) ?_
      show ab_E w (d + 2) mt_M_netOf 202 [.ref mx, .int v1, .int (v2 &&& (((1 : Int32) <<< (v4 &&& 31)) ^^^ (-1))), .int (v3 ||| ((1 : Int32) <<< (v4 &&& 31))), .int v4, .int v5] [.int (I9 mx_now (51 + v4).toNatClampNeg), .int (I9 mx 22), .ref mx] ((ab_up (ab_up I9 mx_taken (I9 mx 21).toNatClampNeg v4) mx 21 ((I9 mx 21) + 1)), L, ab_RR, n, nc, ns) res
      refine ab_iadd d_M_netOf_202 ?_
      refine ab_putI (ci := 11) (k := 22) d_M_netOf_203 v_1390 rfl (by decide) (by decide) rfl (Or.inl rfl) rfl rfl ?_
      refine ab_goto (tgt := 41) d_M_netOf_206 (by decide) ?_
      refine ab_drop 5 ?_
      exact h
    · have h := h.2 c7
      refine ab_goto (tgt := 41) d_M_netOf_137 (by decide) ?_
      refine ab_drop 5 ?_
      exact h
  · have h := h.2 c2
    refine ab_iload_n (i := 2) d_M_netOf_60 rfl rfl ?_
    refine ab_iload (i := 5) d_M_netOf_61 rfl ?_
    by_cases c14 : ((v2 >>> (v5 &&& 31)) &&& 1) = 1
    · have h := h.1 c14
      refine ab_callS (me2 := mt_M_has) (as := [.int v2, .int v5]) (st := []) (rv := (some (.int 1))) (M2 := (I, L, ab_RR, n, nc, ns)) d_M_netOf_63 ce_M_has ⟨v_1648, Or.inl v_1647⟩ (Nat.le_of_ble_eq_true rfl) (cx_M_has_1 v2 v5 hT c14) (Nat.le_refl _) (Nat.le_refl _) hc hs (fun j h9 => by cases h9) (fun _ _ => rfl) ?_
      show ab_E w (d + 2) mt_M_netOf 66 [.ref mx, .int v1, .int v2, .int v3, .int v4, .int v5] [.int 1] (I, L, ab_RR, n, nc, ns) res
      refine ab_if_eq (tgt := 90) d_M_netOf_66 (by decide) (fun c9 => absurd c9 (show ¬ (1 : Int32) = 0 from by decide)) (fun _ => ?_)
      refine ab_iload (i := 4) d_M_netOf_69 rfl ?_
      refine ab_iconst (v := (-1)) d_M_netOf_71 rfl ?_
      refine ab_icmp_eq (tgt := 86) d_M_netOf_72 (by decide) (fun c15 => ?_) (fun c15 => ?_)
      · have h := h.1 c15
        refine ab_iload (i := 5) d_M_netOf_86 rfl ?_
        refine ab_istore (i := 4) d_M_netOf_88 (by decide) (Or.inr rfl) ?_
        refine ab_iinc (i := 5) (v := (v5 + 1)) d_M_netOf_90 rfl rfl (by decide) (Or.inr rfl) ?_
        refine ab_goto (tgt := 51) d_M_netOf_93 (by decide) ?_
        exact h
      · have h := h.2 c15
        refine ab_aload_n (i := 0) d_M_netOf_75 rfl rfl ?_
        refine ab_iload (i := 5) d_M_netOf_76 rfl ?_
        refine ab_iload (i := 4) d_M_netOf_78 rfl ?_
        have g17 := h.1; have h := h.2
        have g18 := h.1; have h := h.2
        by_cases c19 : (I mx_now (51 + v5).toNatClampNeg) < (I mx_now (51 + v4).toNatClampNeg)
        · have h := h.1 c19
          refine ab_callV (me2 := mt_M_isCheaper) (b := mx) (as := [.int v5, .int v4]) (st := []) (rv := (some (.int 1))) (M2 := (I, L, ab_RR, n, nc, ns)) d_M_netOf_80 ce_M_isCheaper v_1650 v_1652 v_82 (by decide) rfl (Nat.le_of_ble_eq_true rfl) (cx_M_isCheaper_0 v5 v4 hT g17 g18 c19) (Nat.le_refl _) (Nat.le_refl _) hc hs (fun j h9 => by cases h9) (fun _ _ => rfl) ?_
          show ab_E w (d + 2) mt_M_netOf 83 [.ref mx, .int v1, .int v2, .int v3, .int v4, .int v5] [.int 1] (I, L, ab_RR, n, nc, ns) res
          refine ab_if_eq (tgt := 90) d_M_netOf_83 (by decide) (fun c9 => absurd c9 (show ¬ (1 : Int32) = 0 from by decide)) (fun _ => ?_)
          refine ab_iload (i := 5) d_M_netOf_86 rfl ?_
          refine ab_istore (i := 4) d_M_netOf_88 (by decide) (Or.inr rfl) ?_
          refine ab_iinc (i := 5) (v := (v5 + 1)) d_M_netOf_90 rfl rfl (by decide) (Or.inr rfl) ?_
          refine ab_goto (tgt := 51) d_M_netOf_93 (by decide) ?_
          exact h
        · have h := h.2 c19
          by_cases c20 : (I mx_now (51 + v5).toNatClampNeg) = (I mx_now (51 + v4).toNatClampNeg)
          · have h := h.1 c20
            by_cases c21 : v4 ≤ v5
            · have h := h.1 c21
              refine ab_callV (me2 := mt_M_isCheaper) (b := mx) (as := [.int v5, .int v4]) (st := []) (rv := (some (.int 0))) (M2 := (I, L, ab_RR, n, nc, ns)) d_M_netOf_80 ce_M_isCheaper v_1650 v_1652 v_82 (by decide) rfl (Nat.le_of_ble_eq_true rfl) (cx_M_isCheaper_2 v5 v4 hT g17 g18 c19 g17 g18 c20 c21) (Nat.le_refl _) (Nat.le_refl _) hc hs (fun j h9 => by cases h9) (fun _ _ => rfl) ?_
              show ab_E w (d + 2) mt_M_netOf 83 [.ref mx, .int v1, .int v2, .int v3, .int v4, .int v5] [.int 0] (I, L, ab_RR, n, nc, ns) res
              refine ab_if_eq (tgt := 90) d_M_netOf_83 (by decide) (fun _ => ?_) (fun c9 => absurd (show (0 : Int32) = 0 from by decide) c9)
              refine ab_iinc (i := 5) (v := (v5 + 1)) d_M_netOf_90 rfl rfl (by decide) (Or.inr rfl) ?_
              refine ab_goto (tgt := 51) d_M_netOf_93 (by decide) ?_
              exact h
            · have h := h.2 c21
              refine ab_callV (me2 := mt_M_isCheaper) (b := mx) (as := [.int v5, .int v4]) (st := []) (rv := (some (.int 1))) (M2 := (I, L, ab_RR, n, nc, ns)) d_M_netOf_80 ce_M_isCheaper v_1650 v_1652 v_82 (by decide) rfl (Nat.le_of_ble_eq_true rfl) (cx_M_isCheaper_3 v5 v4 hT g17 g18 c19 g17 g18 c20 c21) (Nat.le_refl _) (Nat.le_refl _) hc hs (fun j h9 => by cases h9) (fun _ _ => rfl) ?_
              show ab_E w (d + 2) mt_M_netOf 83 [.ref mx, .int v1, .int v2, .int v3, .int v4, .int v5] [.int 1] (I, L, ab_RR, n, nc, ns) res
              refine ab_if_eq (tgt := 90) d_M_netOf_83 (by decide) (fun c9 => absurd c9 (show ¬ (1 : Int32) = 0 from by decide)) (fun _ => ?_)
              refine ab_iload (i := 5) d_M_netOf_86 rfl ?_
              refine ab_istore (i := 4) d_M_netOf_88 (by decide) (Or.inr rfl) ?_
              refine ab_iinc (i := 5) (v := (v5 + 1)) d_M_netOf_90 rfl rfl (by decide) (Or.inr rfl) ?_
              refine ab_goto (tgt := 51) d_M_netOf_93 (by decide) ?_
              exact h
          · have h := h.2 c20
            refine ab_callV (me2 := mt_M_isCheaper) (b := mx) (as := [.int v5, .int v4]) (st := []) (rv := (some (.int 0))) (M2 := (I, L, ab_RR, n, nc, ns)) d_M_netOf_80 ce_M_isCheaper v_1650 v_1652 v_82 (by decide) rfl (Nat.le_of_ble_eq_true rfl) (cx_M_isCheaper_1 v5 v4 hT g17 g18 c19 g17 g18 c20) (Nat.le_refl _) (Nat.le_refl _) hc hs (fun j h9 => by cases h9) (fun _ _ => rfl) ?_
            show ab_E w (d + 2) mt_M_netOf 83 [.ref mx, .int v1, .int v2, .int v3, .int v4, .int v5] [.int 0] (I, L, ab_RR, n, nc, ns) res
            refine ab_if_eq (tgt := 90) d_M_netOf_83 (by decide) (fun _ => ?_) (fun c9 => absurd (show (0 : Int32) = 0 from by decide) c9)
            refine ab_iinc (i := 5) (v := (v5 + 1)) d_M_netOf_90 rfl rfl (by decide) (Or.inr rfl) ?_
            refine ab_goto (tgt := 51) d_M_netOf_93 (by decide) ?_
            exact h
    · have h := h.2 c14
      refine ab_callS (me2 := mt_M_has) (as := [.int v2, .int v5]) (st := []) (rv := (some (.int 0))) (M2 := (I, L, ab_RR, n, nc, ns)) d_M_netOf_63 ce_M_has ⟨v_1648, Or.inl v_1647⟩ (Nat.le_of_ble_eq_true rfl) (cx_M_has_0 v2 v5 hT c14) (Nat.le_refl _) (Nat.le_refl _) hc hs (fun j h9 => by cases h9) (fun _ _ => rfl) ?_
      show ab_E w (d + 2) mt_M_netOf 66 [.ref mx, .int v1, .int v2, .int v3, .int v4, .int v5] [.int 0] (I, L, ab_RR, n, nc, ns) res
      refine ab_if_eq (tgt := 90) d_M_netOf_66 (by decide) (fun _ => ?_) (fun c9 => absurd (show (0 : Int32) = 0 from by decide) c9)
      refine ab_iinc (i := 5) (v := (v5 + 1)) d_M_netOf_90 rfl rfl (by decide) (Or.inr rfl) ?_
      refine ab_goto (tgt := 51) d_M_netOf_93 (by decide) ?_
      exact h
theorem r_M_netNow_0 {w : ab_Wd} {d n nc ns : Nat} {I : Nat → Nat → Int32} {L : Nat → Nat → Int64} {res : ab_Re} (hT : w.1.stackTraces = false)  (hc : nc ≤ res.2.2.2.2.2.1) (hs : ns ≤ res.2.2.2.2.2.2)
    (h : ∃ (r1 : Int32) (I2 : Nat → Nat → Int32), ab_C w d mt_M_netOf [.ref mx, .int (I mx_now 1)] (I, L, ab_RR, n, nc, ns) (.inl (some (.int r1)), (I2, L, ab_RR, n, nc, ns)) ∧ res = (.inl (some (.int r1)), (I2, L, ab_RR, n, nc, ns))) : ab_E w (d + 1) mt_M_netNow 0 [.ref mx] [] (I, L, ab_RR, n, nc, ns) res := by
  refine ab_aload_n (i := 0) d_M_netNow_0 rfl rfl ?_
  refine ab_aload_n (i := 0) d_M_netNow_1 rfl rfl ?_
  refine ab_getR (ci := 11) (k := 4) (j := mx_now) d_M_netNow_2 v_1372 rfl (by decide) (by decide) rfl r_mx_4 ?_
  refine ab_iconst (v := 1) d_M_netNow_5 rfl ?_
  refine ab_iald d_M_netNow_6 rfl rfl (by unfold vp_in; decide) ?_
  obtain ⟨r1, I2, hC, h⟩ := h
  refine ab_callV (me2 := mt_M_netOf) (b := mx) (as := [.int (I mx_now 1)]) (st := []) (rv := (some (.int r1))) (M2 := (I2, L, ab_RR, n, nc, ns)) d_M_netNow_7 ce_M_netOf v_1643 v_1645 v_81 (by decide) rfl (Nat.le_of_ble_eq_true rfl) hC (Nat.le_refl _) (Nat.le_refl _) hc hs (fun j h9 => by cases h9) (fun _ _ => rfl) ?_
  show ab_E w (d + 1) mt_M_netNow 10 [.ref mx] [.int r1] (I2, L, ab_RR, n, nc, ns) res
  exact ab_iret (ty := .int) d_M_netNow_10 rfl rfl h
theorem cx_M_pieces_0 {w : ab_Wd} {d n nc ns : Nat} {I : Nat → Nat → Int32} {L : Nat → Nat → Int64}  (hT : w.1.stackTraces = false)  : ab_C w d mt_M_pieces [.ref mx] (I, L, ab_RR, n, nc, ns) (.inl (some (.int ((I mx 2) - (I mx 21)))), (I, L, ab_RR, n, nc, ns)) := by
  refine ab_C_of (by decide) rfl (Nat.le_of_ble_eq_true rfl) hT ?_
  have hc := Nat.le_refl nc
  have hs := Nat.le_refl ns
  refine ab_aload_n (i := 0) d_M_pieces_0 rfl rfl ?_
  refine ab_getI (ci := 11) (k := 2) d_M_pieces_1 v_1370 rfl (by decide) (by decide) rfl ?_
  refine ab_aload_n (i := 0) d_M_pieces_4 rfl rfl ?_
  refine ab_getI (ci := 11) (k := 21) d_M_pieces_5 v_1389 rfl (by decide) (by decide) rfl ?_
  refine ab_isub d_M_pieces_8 ?_
  exact ab_iret (ty := .int) d_M_pieces_9 rfl rfl rfl
theorem r_M_totalNow_0 {w : ab_Wd} {d n nc ns : Nat} {I : Nat → Nat → Int32} {L : Nat → Nat → Int64} {res : ab_Re} (hT : w.1.stackTraces = false)  (hc : nc ≤ res.2.2.2.2.2.1) (hs : ns ≤ res.2.2.2.2.2.2)
    (h : ∃ (r1 : Int32) (I2 : Nat → Nat → Int32), ab_C w d mt_M_netNow [.ref mx] (I, L, ab_RR, n, nc, ns) (.inl (some (.int r1)), (I2, L, ab_RR, n, nc, ns)) ∧ res = (.inl (some (.int (I2 mx 22))), (I2, L, ab_RR, n, nc, ns))) : ab_E w (d + 1) mt_M_totalNow 0 [.ref mx, .null] [] (I, L, ab_RR, n, nc, ns) res := by
  refine ab_aload_n (i := 0) d_M_totalNow_0 rfl rfl ?_
  obtain ⟨r1, I2, hC, h⟩ := h
  refine ab_callV (me2 := mt_M_netNow) (b := mx) (as := []) (st := []) (rv := (some (.int r1))) (M2 := (I2, L, ab_RR, n, nc, ns)) d_M_totalNow_1 ce_M_netNow v_1639 v_1641 v_80 (by decide) rfl (Nat.le_of_ble_eq_true rfl) hC (Nat.le_refl _) (Nat.le_refl _) hc hs (fun j h9 => by cases h9) (fun _ _ => rfl) ?_
  show ab_E w (d + 1) mt_M_totalNow 4 [.ref mx, .null] [.int r1] (I2, L, ab_RR, n, nc, ns) res
  refine ab_istore_n (i := 1) d_M_totalNow_4 rfl (by decide) (Or.inr rfl) ?_
  refine ab_aload_n (i := 0) d_M_totalNow_5 rfl rfl ?_
  refine ab_getI (ci := 11) (k := 22) d_M_totalNow_6 v_1390 rfl (by decide) (by decide) rfl ?_
  exact ab_iret (ty := .int) d_M_totalNow_9 rfl rfl h
theorem r_M_piecesNow_0 {w : ab_Wd} {d n nc ns : Nat} {I : Nat → Nat → Int32} {L : Nat → Nat → Int64} {res : ab_Re} (hT : w.1.stackTraces = false)  (hc : nc ≤ res.2.2.2.2.2.1) (hs : ns ≤ res.2.2.2.2.2.2)
    (h : ∃ (r1 : Int32) (I2 : Nat → Nat → Int32), ab_C w d mt_M_netNow [.ref mx] (I, L, ab_RR, n, nc, ns) (.inl (some (.int r1)), (I2, L, ab_RR, n, nc, ns)) ∧ res = (.inl (some (.int ((I2 mx 2) - (I2 mx 21)))), (I2, L, ab_RR, n, nc, ns))) : ab_E w (d + 1) mt_M_piecesNow 0 [.ref mx, .null] [] (I, L, ab_RR, n, nc, ns) res := by
  refine ab_aload_n (i := 0) d_M_piecesNow_0 rfl rfl ?_
  obtain ⟨r1, I2, hC, h⟩ := h
  refine ab_callV (me2 := mt_M_netNow) (b := mx) (as := []) (st := []) (rv := (some (.int r1))) (M2 := (I2, L, ab_RR, n, nc, ns)) d_M_piecesNow_1 ce_M_netNow v_1639 v_1641 v_80 (by decide) rfl (Nat.le_of_ble_eq_true rfl) hC (Nat.le_refl _) (Nat.le_refl _) hc hs (fun j h9 => by cases h9) (fun _ _ => rfl) ?_
  show ab_E w (d + 1) mt_M_piecesNow 4 [.ref mx, .null] [.int r1] (I2, L, ab_RR, n, nc, ns) res
  refine ab_istore_n (i := 1) d_M_piecesNow_4 rfl (by decide) (Or.inr rfl) ?_
  refine ab_aload_n (i := 0) d_M_piecesNow_5 rfl rfl ?_
  refine ab_callV (me2 := mt_M_pieces) (b := mx) (as := []) (st := []) (rv := (some (.int ((I2 mx 2) - (I2 mx 21))))) (M2 := (I2, L, ab_RR, n, nc, ns)) d_M_piecesNow_6 ce_M_pieces v_1671 v_1673 v_87 (by decide) rfl (Nat.le_of_ble_eq_true rfl) (cx_M_pieces_0  hT) (Nat.le_refl _) (Nat.le_refl _) hc hs (fun j h9 => by cases h9) (fun _ _ => rfl) ?_
  show ab_E w (d + 1) mt_M_piecesNow 9 [.ref mx, .int r1] [.int ((I2 mx 2) - (I2 mx 21))] (I2, L, ab_RR, n, nc, ns) res
  exact ab_iret (ty := .int) d_M_piecesNow_9 rfl rfl h
theorem r_M_swaps_0 {w : ab_Wd} {d n nc ns : Nat} {I : Nat → Nat → Int32} {L : Nat → Nat → Int64} {res : ab_Re} (hT : w.1.stackTraces = false) (v1 : Int32) (v2 : Int32) (v3 : Int32) (hc : nc ≤ res.2.2.2.2.2.1) (hs : ns ≤ res.2.2.2.2.2.2)
    (h : ∃ (r1 : Int32) (I2 : Nat → Nat → Int32), ab_C w d mt_M_netNow [.ref mx] (I, L, ab_RR, n, nc, ns) (.inl (some (.int r1)), (I2, L, ab_RR, n, nc, ns)) ∧ ((¬ (v3 &&& (r1 ^^^ (-1))) = 0 → ((vp_in (99 + (5 * ((I2 mx_now 2) - (I2 mx_now 2) / 60 * 60))) 399) ∧ (vp_in ((99 + (5 * ((I2 mx_now 2) - (I2 mx_now 2) / 60 * 60))) + 1) 399) ∧ ((¬ (v3 &&& (r1 ^^^ (-1))) = 0 → (∃ (r7 : Int32), ab_C w d mt_Integer_numberOfTrailingZeros [.int (v3 &&& (r1 ^^^ (-1)))] ((ab_up (ab_up I2 mx_now (99 + (5 * ((I2 mx_now 2) - (I2 mx_now 2) / 60 * 60))).toNatClampNeg v1) mx_now ((99 + (5 * ((I2 mx_now 2) - (I2 mx_now 2) / 60 * 60))) + 1).toNatClampNeg v2), L, ab_RR, n, nc, ns) (.inl (some (.int r7)), ((ab_up (ab_up I2 mx_now (99 + (5 * ((I2 mx_now 2) - (I2 mx_now 2) / 60 * 60))).toNatClampNeg v1) mx_now ((99 + (5 * ((I2 mx_now 2) - (I2 mx_now 2) / 60 * 60))) + 1).toNatClampNeg v2), L, ab_RR, n, nc, ns)) ∧ (vp_in ((99 + (5 * ((I2 mx_now 2) - (I2 mx_now 2) / 60 * 60))) + 2) 399) ∧ ((¬ (r1 &&& (v3 ^^^ (-1))) = 0 → (∃ (r10 : Int32), ab_C w d mt_Integer_numberOfTrailingZeros [.int (r1 &&& (v3 ^^^ (-1)))] ((ab_up (ab_up (ab_up I2 mx_now (99 + (5 * ((I2 mx_now 2) - (I2 mx_now 2) / 60 * 60))).toNatClampNeg v1) mx_now ((99 + (5 * ((I2 mx_now 2) - (I2 mx_now 2) / 60 * 60))) + 1).toNatClampNeg v2) mx_now ((99 + (5 * ((I2 mx_now 2) - (I2 mx_now 2) / 60 * 60))) + 2).toNatClampNeg r7), L, ab_RR, n, nc, ns) (.inl (some (.int r10)), ((ab_up (ab_up (ab_up I2 mx_now (99 + (5 * ((I2 mx_now 2) - (I2 mx_now 2) / 60 * 60))).toNatClampNeg v1) mx_now ((99 + (5 * ((I2 mx_now 2) - (I2 mx_now 2) / 60 * 60))) + 1).toNatClampNeg v2) mx_now ((99 + (5 * ((I2 mx_now 2) - (I2 mx_now 2) / 60 * 60))) + 2).toNatClampNeg r7), L, ab_RR, n, nc, ns)) ∧ (vp_in ((99 + (5 * ((I2 mx_now 2) - (I2 mx_now 2) / 60 * 60))) + 3) 399) ∧ (vp_in ((99 + (5 * ((I2 mx_now 2) - (I2 mx_now 2) / 60 * 60))) + 4) 399) ∧ res = (.inl none, ((ab_up (ab_up (ab_up (ab_up (ab_up (ab_up I2 mx_now (99 + (5 * ((I2 mx_now 2) - (I2 mx_now 2) / 60 * 60))).toNatClampNeg v1) mx_now ((99 + (5 * ((I2 mx_now 2) - (I2 mx_now 2) / 60 * 60))) + 1).toNatClampNeg v2) mx_now ((99 + (5 * ((I2 mx_now 2) - (I2 mx_now 2) / 60 * 60))) + 2).toNatClampNeg r7) mx_now ((99 + (5 * ((I2 mx_now 2) - (I2 mx_now 2) / 60 * 60))) + 3).toNatClampNeg r10) mx_now ((99 + (5 * ((I2 mx_now 2) - (I2 mx_now 2) / 60 * 60))) + 4).toNatClampNeg (I2 mx 22)) mx_now 2 (((ab_up (ab_up (ab_up (ab_up (ab_up I2 mx_now (99 + (5 * ((I2 mx_now 2) - (I2 mx_now 2) / 60 * 60))).toNatClampNeg v1) mx_now ((99 + (5 * ((I2 mx_now 2) - (I2 mx_now 2) / 60 * 60))) + 1).toNatClampNeg v2) mx_now ((99 + (5 * ((I2 mx_now 2) - (I2 mx_now 2) / 60 * 60))) + 2).toNatClampNeg r7) mx_now ((99 + (5 * ((I2 mx_now 2) - (I2 mx_now 2) / 60 * 60))) + 3).toNatClampNeg r10) mx_now ((99 + (5 * ((I2 mx_now 2) - (I2 mx_now 2) / 60 * 60))) + 4).toNatClampNeg (I2 mx 22)) mx_now 2) + 1)), L, ab_RR, n, nc, ns)))) ∧ ((r1 &&& (v3 ^^^ (-1))) = 0 → ((vp_in ((99 + (5 * ((I2 mx_now 2) - (I2 mx_now 2) / 60 * 60))) + 3) 399) ∧ (vp_in ((99 + (5 * ((I2 mx_now 2) - (I2 mx_now 2) / 60 * 60))) + 4) 399) ∧ res = (.inl none, ((ab_up (ab_up (ab_up (ab_up (ab_up (ab_up I2 mx_now (99 + (5 * ((I2 mx_now 2) - (I2 mx_now 2) / 60 * 60))).toNatClampNeg v1) mx_now ((99 + (5 * ((I2 mx_now 2) - (I2 mx_now 2) / 60 * 60))) + 1).toNatClampNeg v2) mx_now ((99 + (5 * ((I2 mx_now 2) - (I2 mx_now 2) / 60 * 60))) + 2).toNatClampNeg r7) mx_now ((99 + (5 * ((I2 mx_now 2) - (I2 mx_now 2) / 60 * 60))) + 3).toNatClampNeg (-1)) mx_now ((99 + (5 * ((I2 mx_now 2) - (I2 mx_now 2) / 60 * 60))) + 4).toNatClampNeg (I2 mx 22)) mx_now 2 (((ab_up (ab_up (ab_up (ab_up (ab_up I2 mx_now (99 + (5 * ((I2 mx_now 2) - (I2 mx_now 2) / 60 * 60))).toNatClampNeg v1) mx_now ((99 + (5 * ((I2 mx_now 2) - (I2 mx_now 2) / 60 * 60))) + 1).toNatClampNeg v2) mx_now ((99 + (5 * ((I2 mx_now 2) - (I2 mx_now 2) / 60 * 60))) + 2).toNatClampNeg r7) mx_now ((99 + (5 * ((I2 mx_now 2) - (I2 mx_now 2) / 60 * 60))) + 3).toNatClampNeg (-1)) mx_now ((99 + (5 * ((I2 mx_now 2) - (I2 mx_now 2) / 60 * 60))) + 4).toNatClampNeg (I2 mx 22)) mx_now 2) + 1)), L, ab_RR, n, nc, ns))))))) ∧ ((v3 &&& (r1 ^^^ (-1))) = 0 → ((vp_in ((99 + (5 * ((I2 mx_now 2) - (I2 mx_now 2) / 60 * 60))) + 2) 399) ∧ ((¬ (r1 &&& (v3 ^^^ (-1))) = 0 → (∃ (r17 : Int32), ab_C w d mt_Integer_numberOfTrailingZeros [.int (r1 &&& (v3 ^^^ (-1)))] ((ab_up (ab_up (ab_up I2 mx_now (99 + (5 * ((I2 mx_now 2) - (I2 mx_now 2) / 60 * 60))).toNatClampNeg v1) mx_now ((99 + (5 * ((I2 mx_now 2) - (I2 mx_now 2) / 60 * 60))) + 1).toNatClampNeg v2) mx_now ((99 + (5 * ((I2 mx_now 2) - (I2 mx_now 2) / 60 * 60))) + 2).toNatClampNeg (-1)), L, ab_RR, n, nc, ns) (.inl (some (.int r17)), ((ab_up (ab_up (ab_up I2 mx_now (99 + (5 * ((I2 mx_now 2) - (I2 mx_now 2) / 60 * 60))).toNatClampNeg v1) mx_now ((99 + (5 * ((I2 mx_now 2) - (I2 mx_now 2) / 60 * 60))) + 1).toNatClampNeg v2) mx_now ((99 + (5 * ((I2 mx_now 2) - (I2 mx_now 2) / 60 * 60))) + 2).toNatClampNeg (-1)), L, ab_RR, n, nc, ns)) ∧ (vp_in ((99 + (5 * ((I2 mx_now 2) - (I2 mx_now 2) / 60 * 60))) + 3) 399) ∧ (vp_in ((99 + (5 * ((I2 mx_now 2) - (I2 mx_now 2) / 60 * 60))) + 4) 399) ∧ res = (.inl none, ((ab_up (ab_up (ab_up (ab_up (ab_up (ab_up I2 mx_now (99 + (5 * ((I2 mx_now 2) - (I2 mx_now 2) / 60 * 60))).toNatClampNeg v1) mx_now ((99 + (5 * ((I2 mx_now 2) - (I2 mx_now 2) / 60 * 60))) + 1).toNatClampNeg v2) mx_now ((99 + (5 * ((I2 mx_now 2) - (I2 mx_now 2) / 60 * 60))) + 2).toNatClampNeg (-1)) mx_now ((99 + (5 * ((I2 mx_now 2) - (I2 mx_now 2) / 60 * 60))) + 3).toNatClampNeg r17) mx_now ((99 + (5 * ((I2 mx_now 2) - (I2 mx_now 2) / 60 * 60))) + 4).toNatClampNeg (I2 mx 22)) mx_now 2 (((ab_up (ab_up (ab_up (ab_up (ab_up I2 mx_now (99 + (5 * ((I2 mx_now 2) - (I2 mx_now 2) / 60 * 60))).toNatClampNeg v1) mx_now ((99 + (5 * ((I2 mx_now 2) - (I2 mx_now 2) / 60 * 60))) + 1).toNatClampNeg v2) mx_now ((99 + (5 * ((I2 mx_now 2) - (I2 mx_now 2) / 60 * 60))) + 2).toNatClampNeg (-1)) mx_now ((99 + (5 * ((I2 mx_now 2) - (I2 mx_now 2) / 60 * 60))) + 3).toNatClampNeg r17) mx_now ((99 + (5 * ((I2 mx_now 2) - (I2 mx_now 2) / 60 * 60))) + 4).toNatClampNeg (I2 mx 22)) mx_now 2) + 1)), L, ab_RR, n, nc, ns)))) ∧ ((r1 &&& (v3 ^^^ (-1))) = 0 → ((vp_in ((99 + (5 * ((I2 mx_now 2) - (I2 mx_now 2) / 60 * 60))) + 3) 399) ∧ (vp_in ((99 + (5 * ((I2 mx_now 2) - (I2 mx_now 2) / 60 * 60))) + 4) 399) ∧ res = (.inl none, ((ab_up (ab_up (ab_up (ab_up (ab_up (ab_up I2 mx_now (99 + (5 * ((I2 mx_now 2) - (I2 mx_now 2) / 60 * 60))).toNatClampNeg v1) mx_now ((99 + (5 * ((I2 mx_now 2) - (I2 mx_now 2) / 60 * 60))) + 1).toNatClampNeg v2) mx_now ((99 + (5 * ((I2 mx_now 2) - (I2 mx_now 2) / 60 * 60))) + 2).toNatClampNeg (-1)) mx_now ((99 + (5 * ((I2 mx_now 2) - (I2 mx_now 2) / 60 * 60))) + 3).toNatClampNeg (-1)) mx_now ((99 + (5 * ((I2 mx_now 2) - (I2 mx_now 2) / 60 * 60))) + 4).toNatClampNeg (I2 mx 22)) mx_now 2 (((ab_up (ab_up (ab_up (ab_up (ab_up I2 mx_now (99 + (5 * ((I2 mx_now 2) - (I2 mx_now 2) / 60 * 60))).toNatClampNeg v1) mx_now ((99 + (5 * ((I2 mx_now 2) - (I2 mx_now 2) / 60 * 60))) + 1).toNatClampNeg v2) mx_now ((99 + (5 * ((I2 mx_now 2) - (I2 mx_now 2) / 60 * 60))) + 2).toNatClampNeg (-1)) mx_now ((99 + (5 * ((I2 mx_now 2) - (I2 mx_now 2) / 60 * 60))) + 3).toNatClampNeg (-1)) mx_now ((99 + (5 * ((I2 mx_now 2) - (I2 mx_now 2) / 60 * 60))) + 4).toNatClampNeg (I2 mx 22)) mx_now 2) + 1)), L, ab_RR, n, nc, ns)))))))))) ∧ ((v3 &&& (r1 ^^^ (-1))) = 0 → ((¬ (r1 &&& (v3 ^^^ (-1))) = 0 → ((vp_in (99 + (5 * ((I2 mx_now 2) - (I2 mx_now 2) / 60 * 60))) 399) ∧ (vp_in ((99 + (5 * ((I2 mx_now 2) - (I2 mx_now 2) / 60 * 60))) + 1) 399) ∧ ((¬ (v3 &&& (r1 ^^^ (-1))) = 0 → (∃ (r26 : Int32), ab_C w d mt_Integer_numberOfTrailingZeros [.int (v3 &&& (r1 ^^^ (-1)))] ((ab_up (ab_up I2 mx_now (99 + (5 * ((I2 mx_now 2) - (I2 mx_now 2) / 60 * 60))).toNatClampNeg v1) mx_now ((99 + (5 * ((I2 mx_now 2) - (I2 mx_now 2) / 60 * 60))) + 1).toNatClampNeg v2), L, ab_RR, n, nc, ns) (.inl (some (.int r26)), ((ab_up (ab_up I2 mx_now (99 + (5 * ((I2 mx_now 2) - (I2 mx_now 2) / 60 * 60))).toNatClampNeg v1) mx_now ((99 + (5 * ((I2 mx_now 2) - (I2 mx_now 2) / 60 * 60))) + 1).toNatClampNeg v2), L, ab_RR, n, nc, ns)) ∧ (vp_in ((99 + (5 * ((I2 mx_now 2) - (I2 mx_now 2) / 60 * 60))) + 2) 399) ∧ ((¬ (r1 &&& (v3 ^^^ (-1))) = 0 → (∃ (r29 : Int32), ab_C w d mt_Integer_numberOfTrailingZeros [.int (r1 &&& (v3 ^^^ (-1)))] ((ab_up (ab_up (ab_up I2 mx_now (99 + (5 * ((I2 mx_now 2) - (I2 mx_now 2) / 60 * 60))).toNatClampNeg v1) mx_now ((99 + (5 * ((I2 mx_now 2) - (I2 mx_now 2) / 60 * 60))) + 1).toNatClampNeg v2) mx_now ((99 + (5 * ((I2 mx_now 2) - (I2 mx_now 2) / 60 * 60))) + 2).toNatClampNeg r26), L, ab_RR, n, nc, ns) (.inl (some (.int r29)), ((ab_up (ab_up (ab_up I2 mx_now (99 + (5 * ((I2 mx_now 2) - (I2 mx_now 2) / 60 * 60))).toNatClampNeg v1) mx_now ((99 + (5 * ((I2 mx_now 2) - (I2 mx_now 2) / 60 * 60))) + 1).toNatClampNeg v2) mx_now ((99 + (5 * ((I2 mx_now 2) - (I2 mx_now 2) / 60 * 60))) + 2).toNatClampNeg r26), L, ab_RR, n, nc, ns)) ∧ (vp_in ((99 + (5 * ((I2 mx_now 2) - (I2 mx_now 2) / 60 * 60))) + 3) 399) ∧ (vp_in ((99 + (5 * ((I2 mx_now 2) - (I2 mx_now 2) / 60 * 60))) + 4) 399) ∧ res = (.inl none, ((ab_up (ab_up (ab_up (ab_up (ab_up (ab_up I2 mx_now (99 + (5 * ((I2 mx_now 2) - (I2 mx_now 2) / 60 * 60))).toNatClampNeg v1) mx_now ((99 + (5 * ((I2 mx_now 2) - (I2 mx_now 2) / 60 * 60))) + 1).toNatClampNeg v2) mx_now ((99 + (5 * ((I2 mx_now 2) - (I2 mx_now 2) / 60 * 60))) + 2).toNatClampNeg r26) mx_now ((99 + (5 * ((I2 mx_now 2) - (I2 mx_now 2) / 60 * 60))) + 3).toNatClampNeg r29) mx_now ((99 + (5 * ((I2 mx_now 2) - (I2 mx_now 2) / 60 * 60))) + 4).toNatClampNeg (I2 mx 22)) mx_now 2 (((ab_up (ab_up (ab_up (ab_up (ab_up I2 mx_now (99 + (5 * ((I2 mx_now 2) - (I2 mx_now 2) / 60 * 60))).toNatClampNeg v1) mx_now ((99 + (5 * ((I2 mx_now 2) - (I2 mx_now 2) / 60 * 60))) + 1).toNatClampNeg v2) mx_now ((99 + (5 * ((I2 mx_now 2) - (I2 mx_now 2) / 60 * 60))) + 2).toNatClampNeg r26) mx_now ((99 + (5 * ((I2 mx_now 2) - (I2 mx_now 2) / 60 * 60))) + 3).toNatClampNeg r29) mx_now ((99 + (5 * ((I2 mx_now 2) - (I2 mx_now 2) / 60 * 60))) + 4).toNatClampNeg (I2 mx 22)) mx_now 2) + 1)), L, ab_RR, n, nc, ns)))) ∧ ((r1 &&& (v3 ^^^ (-1))) = 0 → ((vp_in ((99 + (5 * ((I2 mx_now 2) - (I2 mx_now 2) / 60 * 60))) + 3) 399) ∧ (vp_in ((99 + (5 * ((I2 mx_now 2) - (I2 mx_now 2) / 60 * 60))) + 4) 399) ∧ res = (.inl none, ((ab_up (ab_up (ab_up (ab_up (ab_up (ab_up I2 mx_now (99 + (5 * ((I2 mx_now 2) - (I2 mx_now 2) / 60 * 60))).toNatClampNeg v1) mx_now ((99 + (5 * ((I2 mx_now 2) - (I2 mx_now 2) / 60 * 60))) + 1).toNatClampNeg v2) mx_now ((99 + (5 * ((I2 mx_now 2) - (I2 mx_now 2) / 60 * 60))) + 2).toNatClampNeg r26) mx_now ((99 + (5 * ((I2 mx_now 2) - (I2 mx_now 2) / 60 * 60))) + 3).toNatClampNeg (-1)) mx_now ((99 + (5 * ((I2 mx_now 2) - (I2 mx_now 2) / 60 * 60))) + 4).toNatClampNeg (I2 mx 22)) mx_now 2 (((ab_up (ab_up (ab_up (ab_up (ab_up I2 mx_now (99 + (5 * ((I2 mx_now 2) - (I2 mx_now 2) / 60 * 60))).toNatClampNeg v1) mx_now ((99 + (5 * ((I2 mx_now 2) - (I2 mx_now 2) / 60 * 60))) + 1).toNatClampNeg v2) mx_now ((99 + (5 * ((I2 mx_now 2) - (I2 mx_now 2) / 60 * 60))) + 2).toNatClampNeg r26) mx_now ((99 + (5 * ((I2 mx_now 2) - (I2 mx_now 2) / 60 * 60))) + 3).toNatClampNeg (-1)) mx_now ((99 + (5 * ((I2 mx_now 2) - (I2 mx_now 2) / 60 * 60))) + 4).toNatClampNeg (I2 mx 22)) mx_now 2) + 1)), L, ab_RR, n, nc, ns))))))) ∧ ((v3 &&& (r1 ^^^ (-1))) = 0 → ((vp_in ((99 + (5 * ((I2 mx_now 2) - (I2 mx_now 2) / 60 * 60))) + 2) 399) ∧ ((¬ (r1 &&& (v3 ^^^ (-1))) = 0 → (∃ (r36 : Int32), ab_C w d mt_Integer_numberOfTrailingZeros [.int (r1 &&& (v3 ^^^ (-1)))] ((ab_up (ab_up (ab_up I2 mx_now (99 + (5 * ((I2 mx_now 2) - (I2 mx_now 2) / 60 * 60))).toNatClampNeg v1) mx_now ((99 + (5 * ((I2 mx_now 2) - (I2 mx_now 2) / 60 * 60))) + 1).toNatClampNeg v2) mx_now ((99 + (5 * ((I2 mx_now 2) - (I2 mx_now 2) / 60 * 60))) + 2).toNatClampNeg (-1)), L, ab_RR, n, nc, ns) (.inl (some (.int r36)), ((ab_up (ab_up (ab_up I2 mx_now (99 + (5 * ((I2 mx_now 2) - (I2 mx_now 2) / 60 * 60))).toNatClampNeg v1) mx_now ((99 + (5 * ((I2 mx_now 2) - (I2 mx_now 2) / 60 * 60))) + 1).toNatClampNeg v2) mx_now ((99 + (5 * ((I2 mx_now 2) - (I2 mx_now 2) / 60 * 60))) + 2).toNatClampNeg (-1)), L, ab_RR, n, nc, ns)) ∧ (vp_in ((99 + (5 * ((I2 mx_now 2) - (I2 mx_now 2) / 60 * 60))) + 3) 399) ∧ (vp_in ((99 + (5 * ((I2 mx_now 2) - (I2 mx_now 2) / 60 * 60))) + 4) 399) ∧ res = (.inl none, ((ab_up (ab_up (ab_up (ab_up (ab_up (ab_up I2 mx_now (99 + (5 * ((I2 mx_now 2) - (I2 mx_now 2) / 60 * 60))).toNatClampNeg v1) mx_now ((99 + (5 * ((I2 mx_now 2) - (I2 mx_now 2) / 60 * 60))) + 1).toNatClampNeg v2) mx_now ((99 + (5 * ((I2 mx_now 2) - (I2 mx_now 2) / 60 * 60))) + 2).toNatClampNeg (-1)) mx_now ((99 + (5 * ((I2 mx_now 2) - (I2 mx_now 2) / 60 * 60))) + 3).toNatClampNeg r36) mx_now ((99 + (5 * ((I2 mx_now 2) - (I2 mx_now 2) / 60 * 60))) + 4).toNatClampNeg (I2 mx 22)) mx_now 2 (((ab_up (ab_up (ab_up (ab_up (ab_up I2 mx_now (99 + (5 * ((I2 mx_now 2) - (I2 mx_now 2) / 60 * 60))).toNatClampNeg v1) mx_now ((99 + (5 * ((I2 mx_now 2) - (I2 mx_now 2) / 60 * 60))) + 1).toNatClampNeg v2) mx_now ((99 + (5 * ((I2 mx_now 2) - (I2 mx_now 2) / 60 * 60))) + 2).toNatClampNeg (-1)) mx_now ((99 + (5 * ((I2 mx_now 2) - (I2 mx_now 2) / 60 * 60))) + 3).toNatClampNeg r36) mx_now ((99 + (5 * ((I2 mx_now 2) - (I2 mx_now 2) / 60 * 60))) + 4).toNatClampNeg (I2 mx 22)) mx_now 2) + 1)), L, ab_RR, n, nc, ns)))) ∧ ((r1 &&& (v3 ^^^ (-1))) = 0 → ((vp_in ((99 + (5 * ((I2 mx_now 2) - (I2 mx_now 2) / 60 * 60))) + 3) 399) ∧ (vp_in ((99 + (5 * ((I2 mx_now 2) - (I2 mx_now 2) / 60 * 60))) + 4) 399) ∧ res = (.inl none, ((ab_up (ab_up (ab_up (ab_up (ab_up (ab_up I2 mx_now (99 + (5 * ((I2 mx_now 2) - (I2 mx_now 2) / 60 * 60))).toNatClampNeg v1) mx_now ((99 + (5 * ((I2 mx_now 2) - (I2 mx_now 2) / 60 * 60))) + 1).toNatClampNeg v2) mx_now ((99 + (5 * ((I2 mx_now 2) - (I2 mx_now 2) / 60 * 60))) + 2).toNatClampNeg (-1)) mx_now ((99 + (5 * ((I2 mx_now 2) - (I2 mx_now 2) / 60 * 60))) + 3).toNatClampNeg (-1)) mx_now ((99 + (5 * ((I2 mx_now 2) - (I2 mx_now 2) / 60 * 60))) + 4).toNatClampNeg (I2 mx 22)) mx_now 2 (((ab_up (ab_up (ab_up (ab_up (ab_up I2 mx_now (99 + (5 * ((I2 mx_now 2) - (I2 mx_now 2) / 60 * 60))).toNatClampNeg v1) mx_now ((99 + (5 * ((I2 mx_now 2) - (I2 mx_now 2) / 60 * 60))) + 1).toNatClampNeg v2) mx_now ((99 + (5 * ((I2 mx_now 2) - (I2 mx_now 2) / 60 * 60))) + 2).toNatClampNeg (-1)) mx_now ((99 + (5 * ((I2 mx_now 2) - (I2 mx_now 2) / 60 * 60))) + 3).toNatClampNeg (-1)) mx_now ((99 + (5 * ((I2 mx_now 2) - (I2 mx_now 2) / 60 * 60))) + 4).toNatClampNeg (I2 mx 22)) mx_now 2) + 1)), L, ab_RR, n, nc, ns)))))))))) ∧ ((r1 &&& (v3 ^^^ (-1))) = 0 → (res = (.inl none, (I2, L, ab_RR, n, nc, ns)))))))) : ab_E w (d + 1) mt_M_swaps 0 [.ref mx, .int v1, .int v2, .int v3, .null, .null, .null, .null] [] (I, L, ab_RR, n, nc, ns) res := by
  refine ab_aload_n (i := 0) d_M_swaps_0 rfl rfl ?_
  obtain ⟨r1, I2, hC, h⟩ := h
  refine ab_callV (me2 := mt_M_netNow) (b := mx) (as := []) (st := []) (rv := (some (.int r1))) (M2 := (I2, L, ab_RR, n, nc, ns)) d_M_swaps_1 ce_M_netNow v_1639 v_1641 v_80 (by decide) rfl (Nat.le_of_ble_eq_true rfl) hC (Nat.le_refl _) (Nat.le_refl _) hc hs (fun j h9 => by cases h9) (fun _ _ => rfl) ?_
  show ab_E w (d + 1) mt_M_swaps 4 [.ref mx, .int v1, .int v2, .int v3, .null, .null, .null, .null] [.int r1] (I2, L, ab_RR, n, nc, ns) res
  refine ab_istore (i := 4) d_M_swaps_4 (by decide) (Or.inr rfl) ?_
  refine ab_iload_n (i := 3) d_M_swaps_6 rfl rfl ?_
  refine ab_iload (i := 4) d_M_swaps_7 rfl ?_
  refine ab_iconst (v := (-1)) d_M_swaps_9 rfl ?_
  refine ab_ixor d_M_swaps_10 ?_
  refine ab_iand d_M_swaps_11 ?_
  refine ab_istore (i := 5) d_M_swaps_12 (by decide) (Or.inr rfl) ?_
  refine ab_iload (i := 4) d_M_swaps_14 rfl ?_
  refine ab_iload_n (i := 3) d_M_swaps_16 rfl rfl ?_
  refine ab_iconst (v := (-1)) d_M_swaps_17 rfl ?_
  refine ab_ixor d_M_swaps_18 ?_
  refine ab_iand d_M_swaps_19 ?_
  refine ab_istore (i := 6) d_M_swaps_20 (by decide) (Or.inr rfl) ?_
  refine ab_iload (i := 5) d_M_swaps_22 rfl ?_
  refine ab_if_ne (tgt := 33) d_M_swaps_24 (by decide) (fun c3 => ?_) (fun c3 => ?_)
  · have h := h.1 c3
    refine ab_bipush (v := 99) d_M_swaps_33 rfl ?_
    refine ab_iconst (v := 5) d_M_swaps_35 rfl ?_
    refine ab_aload_n (i := 0) d_M_swaps_36 rfl rfl ?_
    refine ab_getR (ci := 11) (k := 4) (j := mx_now) d_M_swaps_37 v_1372 rfl (by decide) (by decide) rfl r_mx_4 ?_
    refine ab_iconst (v := 2) d_M_swaps_40 rfl ?_
    refine ab_iald d_M_swaps_41 rfl rfl (by unfold vp_in; decide) ?_
    refine ab_bipush (v := 60) d_M_swaps_42 rfl ?_
    refine ab_irem d_M_swaps_44 (by decide) ?_
    refine ab_imul d_M_swaps_45 ?_
    refine ab_iadd d_M_swaps_46 ?_
    refine ab_istore (i := 7) d_M_swaps_47 (by decide) (Or.inr rfl) ?_
    refine ab_aload_n (i := 0) d_M_swaps_49 rfl rfl ?_
    refine ab_getR (ci := 11) (k := 4) (j := mx_now) d_M_swaps_50 v_1372 rfl (by decide) (by decide) rfl r_mx_4 ?_
    refine ab_iload (i := 7) d_M_swaps_53 rfl ?_
    refine ab_iload_n (i := 1) d_M_swaps_55 rfl rfl ?_
    have g4 := h.1; have h := h.2
    refine ab_iast d_M_swaps_56 rfl rfl g4 ?_
    refine ab_aload_n (i := 0) d_M_swaps_57 rfl rfl ?_
    refine ab_getR (ci := 11) (k := 4) (j := mx_now) d_M_swaps_58 v_1372 rfl (by decide) (by decide) rfl r_mx_4 ?_
    refine ab_iload (i := 7) d_M_swaps_61 rfl ?_
    refine ab_iconst (v := 1) d_M_swaps_63 rfl ?_
    refine ab_iadd d_M_swaps_64 ?_
    refine ab_iload_n (i := 2) d_M_swaps_65 rfl rfl ?_
    have g5 := h.1; have h := h.2
    refine ab_iast d_M_swaps_66 rfl rfl g5 ?_
    refine ab_aload_n (i := 0) d_M_swaps_67 rfl rfl ?_
    refine ab_getR (ci := 11) (k := 4) (j := mx_now) d_M_swaps_68 v_1372 rfl (by decide) (by decide) rfl r_mx_4 ?_
    refine ab_iload (i := 7) d_M_swaps_71 rfl ?_
    refine ab_iconst (v := 2) d_M_swaps_73 rfl ?_
    refine ab_iadd d_M_swaps_74 ?_
    refine ab_iload (i := 5) d_M_swaps_75 rfl ?_
    refine ab_if_ne (tgt := 84) d_M_swaps_77 (by decide) (fun c6 => ?_) (fun c6 => ?_)
    · have h := h.1 c6
      refine ab_iload (i := 5) d_M_swaps_84 rfl ?_
      obtain ⟨r7, hC, h⟩ := h
      refine ab_callS (me2 := mt_Integer_numberOfTrailingZeros) (as := [.int (v3 &&& (r1 ^^^ (-1)))]) (st := [.int ((99 + (5 * ((I2 mx_now 2) - (I2 mx_now 2) / 60 * 60))) + 2), .ref mx_now]) (rv := (some (.int r7))) (M2 := ((ab_up (ab_up I2 mx_now (99 + (5 * ((I2 mx_now 2) - (I2 mx_now 2) / 60 * 60))).toNatClampNeg v1) mx_now ((99 + (5 * ((I2 mx_now 2) - (I2 mx_now 2) / 60 * 60))) + 1).toNatClampNeg v2), L, ab_RR, n, nc, ns)) d_M_swaps_86 ce_Integer_numberOfTrailingZeros ⟨v_1917, Or.inl v_1916⟩ (Nat.le_of_ble_eq_true rfl) hC (Nat.le_refl _) (Nat.le_refl _) hc hs (fun j h9 => by cases h9) (fun _ _ => rfl) ?_
      show ab_E w (d + 1) mt_M_swaps 89 [.ref mx, .int v1, .int v2, .int v3, .int r1, .int (v3 &&& (r1 ^^^ (-1))), .int (r1 &&& (v3 ^^^ (-1))), .int (99 + (5 * ((I2 mx_now 2) - (I2 mx_now 2) / 60 * 60)))] [.int r7, .int ((99 + (5 * ((I2 mx_now 2) - (I2 mx_now 2) / 60 * 60))) + 2), .ref mx_now] ((ab_up (ab_up I2 mx_now (99 + (5 * ((I2 mx_now 2) - (I2 mx_now 2) / 60 * 60))).toNatClampNeg v1) mx_now ((99 + (5 * ((I2 mx_now 2) - (I2 mx_now 2) / 60 * 60))) + 1).toNatClampNeg v2), L, ab_RR, n, nc, ns) res
      have g8 := h.1; have h := h.2
      refine ab_iast d_M_swaps_89 rfl rfl g8 ?_
      refine ab_aload_n (i := 0) d_M_swaps_90 rfl rfl ?_
      refine ab_getR (ci := 11) (k := 4) (j := mx_now) d_M_swaps_91 v_1372 rfl (by decide) (by decide) rfl r_mx_4 ?_
      refine ab_iload (i := 7) d_M_swaps_94 rfl ?_
      refine ab_iconst (v := 3) d_M_swaps_96 rfl ?_
      refine ab_iadd d_M_swaps_97 ?_
      refine ab_iload (i := 6) d_M_swaps_98 rfl ?_
      refine ab_if_ne (tgt := 107) d_M_swaps_100 (by decide) (fun c9 => ?_) (fun c9 => ?_)
      · have h := h.1 c9
        refine ab_iload (i := 6) d_M_swaps_107 rfl ?_
        obtain ⟨r10, hC, h⟩ := h
        refine ab_callS (me2 := mt_Integer_numberOfTrailingZeros) (as := [.int (r1 &&& (v3 ^^^ (-1)))]) (st := [.int ((99 + (5 * ((I2 mx_now 2) - (I2 mx_now 2) / 60 * 60))) + 3), .ref mx_now]) (rv := (some (.int r10))) (M2 := ((ab_up (ab_up (ab_up I2 mx_now (99 + (5 * ((I2 mx_now 2) - (I2 mx_now 2) / 60 * 60))).toNatClampNeg v1) mx_now ((99 + (5 * ((I2 mx_now 2) - (I2 mx_now 2) / 60 * 60))) + 1).toNatClampNeg v2) mx_now ((99 + (5 * ((I2 mx_now 2) - (I2 mx_now 2) / 60 * 60))) + 2).toNatClampNeg r7), L, ab_RR, n, nc, ns)) d_M_swaps_109 ce_Integer_numberOfTrailingZeros ⟨v_1917, Or.inl v_1916⟩ (Nat.le_of_ble_eq_true rfl) hC (Nat.le_refl _) (Nat.le_refl _) hc hs (fun j h9 => by cases h9) (fun _ _ => rfl) ?_
        show ab_E w (d + 1) mt_M_swaps 112 [.ref mx, .int v1, .int v2, .int v3, .int r1, .int (v3 &&& (r1 ^^^ (-1))), .int (r1 &&& (v3 ^^^ (-1))), .int (99 + (5 * ((I2 mx_now 2) - (I2 mx_now 2) / 60 * 60)))] [.int r10, .int ((99 + (5 * ((I2 mx_now 2) - (I2 mx_now 2) / 60 * 60))) + 3), .ref mx_now] ((ab_up (ab_up (ab_up I2 mx_now (99 + (5 * ((I2 mx_now 2) - (I2 mx_now 2) / 60 * 60))).toNatClampNeg v1) mx_now ((99 + (5 * ((I2 mx_now 2) - (I2 mx_now 2) / 60 * 60))) + 1).toNatClampNeg v2) mx_now ((99 + (5 * ((I2 mx_now 2) - (I2 mx_now 2) / 60 * 60))) + 2).toNatClampNeg r7), L, ab_RR, n, nc, ns) res
        have g11 := h.1; have h := h.2
        refine ab_iast d_M_swaps_112 rfl rfl g11 ?_
        refine ab_aload_n (i := 0) d_M_swaps_113 rfl rfl ?_
        refine ab_getR (ci := 11) (k := 4) (j := mx_now) d_M_swaps_114 v_1372 rfl (by decide) (by decide) rfl r_mx_4 ?_
        refine ab_iload (i := 7) d_M_swaps_117 rfl ?_
        refine ab_iconst (v := 4) d_M_swaps_119 rfl ?_
        refine ab_iadd d_M_swaps_120 ?_
        refine ab_aload_n (i := 0) d_M_swaps_121 rfl rfl ?_
        refine ab_getI (ci := 11) (k := 22) d_M_swaps_122 v_1390 rfl (by decide) (by decide) rfl ?_
        have g12 := h.1; have h := h.2
        refine ab_iast d_M_swaps_125 rfl rfl g12 ?_
        refine ab_aload_n (i := 0) d_M_swaps_126 rfl rfl ?_
        refine ab_getR (ci := 11) (k := 4) (j := mx_now) d_M_swaps_127 v_1372 rfl (by decide) (by decide) rfl r_mx_4 ?_
        refine ab_iconst (v := 2) d_M_swaps_130 rfl ?_
        refine ab_dup2 d_M_swaps_131 ?_
        refine ab_iald d_M_swaps_132 rfl rfl (by unfold vp_in; decide) ?_
        refine ab_iconst (v := 1) d_M_swaps_133 rfl ?_
        refine ab_iadd d_M_swaps_134 ?_
        refine ab_iast d_M_swaps_135 rfl rfl (by unfold vp_in; decide) ?_
        exact ab_vret d_M_swaps_136 rfl h
      · have h := h.2 c9
        refine ab_iconst (v := (-1)) d_M_swaps_103 rfl ?_
        refine ab_goto (tgt := 112) d_M_swaps_104 (by decide) ?_
        have g13 := h.1; have h := h.2
        refine ab_iast d_M_swaps_112 rfl rfl g13 ?_
        refine ab_aload_n (i := 0) d_M_swaps_113 rfl rfl ?_
        refine ab_getR (ci := 11) (k := 4) (j := mx_now) d_M_swaps_114 v_1372 rfl (by decide) (by decide) rfl r_mx_4 ?_
        refine ab_iload (i := 7) d_M_swaps_117 rfl ?_
        refine ab_iconst (v := 4) d_M_swaps_119 rfl ?_
        refine ab_iadd d_M_swaps_120 ?_
        refine ab_aload_n (i := 0) d_M_swaps_121 rfl rfl ?_
        refine ab_getI (ci := 11) (k := 22) d_M_swaps_122 v_1390 rfl (by decide) (by decide) rfl ?_
        have g14 := h.1; have h := h.2
        refine ab_iast d_M_swaps_125 rfl rfl g14 ?_
        refine ab_aload_n (i := 0) d_M_swaps_126 rfl rfl ?_
        refine ab_getR (ci := 11) (k := 4) (j := mx_now) d_M_swaps_127 v_1372 rfl (by decide) (by decide) rfl r_mx_4 ?_
        refine ab_iconst (v := 2) d_M_swaps_130 rfl ?_
        refine ab_dup2 d_M_swaps_131 ?_
        refine ab_iald d_M_swaps_132 rfl rfl (by unfold vp_in; decide) ?_
        refine ab_iconst (v := 1) d_M_swaps_133 rfl ?_
        refine ab_iadd d_M_swaps_134 ?_
        refine ab_iast d_M_swaps_135 rfl rfl (by unfold vp_in; decide) ?_
        exact ab_vret d_M_swaps_136 rfl h
    · have h := h.2 c6
      refine ab_iconst (v := (-1)) d_M_swaps_80 rfl ?_
      refine ab_goto (tgt := 89) d_M_swaps_81 (by decide) ?_
      have g15 := h.1; have h := h.2
      refine ab_iast d_M_swaps_89 rfl rfl g15 ?_
      refine ab_aload_n (i := 0) d_M_swaps_90 rfl rfl ?_
      refine ab_getR (ci := 11) (k := 4) (j := mx_now) d_M_swaps_91 v_1372 rfl (by decide) (by decide) rfl r_mx_4 ?_
      refine ab_iload (i := 7) d_M_swaps_94 rfl ?_
      refine ab_iconst (v := 3) d_M_swaps_96 rfl ?_
      refine ab_iadd d_M_swaps_97 ?_
      refine ab_iload (i := 6) d_M_swaps_98 rfl ?_
      refine ab_if_ne (tgt := 107) d_M_swaps_100 (by decide) (fun c16 => ?_) (fun c16 => ?_)
      · have h := h.1 c16
        refine ab_iload (i := 6) d_M_swaps_107 rfl ?_
        obtain ⟨r17, hC, h⟩ := h
        refine ab_callS (me2 := mt_Integer_numberOfTrailingZeros) (as := [.int (r1 &&& (v3 ^^^ (-1)))]) (st := [.int ((99 + (5 * ((I2 mx_now 2) - (I2 mx_now 2) / 60 * 60))) + 3), .ref mx_now]) (rv := (some (.int r17))) (M2 := ((ab_up (ab_up (ab_up I2 mx_now (99 + (5 * ((I2 mx_now 2) - (I2 mx_now 2) / 60 * 60))).toNatClampNeg v1) mx_now ((99 + (5 * ((I2 mx_now 2) - (I2 mx_now 2) / 60 * 60))) + 1).toNatClampNeg v2) mx_now ((99 + (5 * ((I2 mx_now 2) - (I2 mx_now 2) / 60 * 60))) + 2).toNatClampNeg (-1)), L, ab_RR, n, nc, ns)) d_M_swaps_109 ce_Integer_numberOfTrailingZeros ⟨v_1917, Or.inl v_1916⟩ (Nat.le_of_ble_eq_true rfl) hC (Nat.le_refl _) (Nat.le_refl _) hc hs (fun j h9 => by cases h9) (fun _ _ => rfl) ?_
        show ab_E w (d + 1) mt_M_swaps 112 [.ref mx, .int v1, .int v2, .int v3, .int r1, .int (v3 &&& (r1 ^^^ (-1))), .int (r1 &&& (v3 ^^^ (-1))), .int (99 + (5 * ((I2 mx_now 2) - (I2 mx_now 2) / 60 * 60)))] [.int r17, .int ((99 + (5 * ((I2 mx_now 2) - (I2 mx_now 2) / 60 * 60))) + 3), .ref mx_now] ((ab_up (ab_up (ab_up I2 mx_now (99 + (5 * ((I2 mx_now 2) - (I2 mx_now 2) / 60 * 60))).toNatClampNeg v1) mx_now ((99 + (5 * ((I2 mx_now 2) - (I2 mx_now 2) / 60 * 60))) + 1).toNatClampNeg v2) mx_now ((99 + (5 * ((I2 mx_now 2) - (I2 mx_now 2) / 60 * 60))) + 2).toNatClampNeg (-1)), L, ab_RR, n, nc, ns) res
        have g18 := h.1; have h := h.2
        refine ab_iast d_M_swaps_112 rfl rfl g18 ?_
        refine ab_aload_n (i := 0) d_M_swaps_113 rfl rfl ?_
        refine ab_getR (ci := 11) (k := 4) (j := mx_now) d_M_swaps_114 v_1372 rfl (by decide) (by decide) rfl r_mx_4 ?_
        refine ab_iload (i := 7) d_M_swaps_117 rfl ?_
        refine ab_iconst (v := 4) d_M_swaps_119 rfl ?_
        refine ab_iadd d_M_swaps_120 ?_
        refine ab_aload_n (i := 0) d_M_swaps_121 rfl rfl ?_
        refine ab_getI (ci := 11) (k := 22) d_M_swaps_122 v_1390 rfl (by decide) (by decide) rfl ?_
        have g19 := h.1; have h := h.2
        refine ab_iast d_M_swaps_125 rfl rfl g19 ?_
        refine ab_aload_n (i := 0) d_M_swaps_126 rfl rfl ?_
        refine ab_getR (ci := 11) (k := 4) (j := mx_now) d_M_swaps_127 v_1372 rfl (by decide) (by decide) rfl r_mx_4 ?_
        refine ab_iconst (v := 2) d_M_swaps_130 rfl ?_
        refine ab_dup2 d_M_swaps_131 ?_
        refine ab_iald d_M_swaps_132 rfl rfl (by unfold vp_in; decide) ?_
        refine ab_iconst (v := 1) d_M_swaps_133 rfl ?_
        refine ab_iadd d_M_swaps_134 ?_
        refine ab_iast d_M_swaps_135 rfl rfl (by unfold vp_in; decide) ?_
        exact ab_vret d_M_swaps_136 rfl h
      · have h := h.2 c16
        refine ab_iconst (v := (-1)) d_M_swaps_103 rfl ?_
        refine ab_goto (tgt := 112) d_M_swaps_104 (by decide) ?_
        have g20 := h.1; have h := h.2
        refine ab_iast d_M_swaps_112 rfl rfl g20 ?_
        refine ab_aload_n (i := 0) d_M_swaps_113 rfl rfl ?_
        refine ab_getR (ci := 11) (k := 4) (j := mx_now) d_M_swaps_114 v_1372 rfl (by decide) (by decide) rfl r_mx_4 ?_
        refine ab_iload (i := 7) d_M_swaps_117 rfl ?_
        refine ab_iconst (v := 4) d_M_swaps_119 rfl ?_
        refine ab_iadd d_M_swaps_120 ?_
        refine ab_aload_n (i := 0) d_M_swaps_121 rfl rfl ?_
        refine ab_getI (ci := 11) (k := 22) d_M_swaps_122 v_1390 rfl (by decide) (by decide) rfl ?_
        have g21 := h.1; have h := h.2
        refine ab_iast d_M_swaps_125 rfl rfl g21 ?_
        refine ab_aload_n (i := 0) d_M_swaps_126 rfl rfl ?_
        refine ab_getR (ci := 11) (k := 4) (j := mx_now) d_M_swaps_127 v_1372 rfl (by decide) (by decide) rfl r_mx_4 ?_
        refine ab_iconst (v := 2) d_M_swaps_130 rfl ?_
        refine ab_dup2 d_M_swaps_131 ?_
        refine ab_iald d_M_swaps_132 rfl rfl (by unfold vp_in; decide) ?_
        refine ab_iconst (v := 1) d_M_swaps_133 rfl ?_
        refine ab_iadd d_M_swaps_134 ?_
        refine ab_iast d_M_swaps_135 rfl rfl (by unfold vp_in; decide) ?_
        exact ab_vret d_M_swaps_136 rfl h
  · have h := h.2 c3
    refine ab_iload (i := 6) d_M_swaps_27 rfl ?_
    refine ab_if_ne (tgt := 33) d_M_swaps_29 (by decide) (fun c22 => ?_) (fun c22 => ?_)
    · have h := h.1 c22
      refine ab_bipush (v := 99) d_M_swaps_33 rfl ?_
      refine ab_iconst (v := 5) d_M_swaps_35 rfl ?_
      refine ab_aload_n (i := 0) d_M_swaps_36 rfl rfl ?_
      refine ab_getR (ci := 11) (k := 4) (j := mx_now) d_M_swaps_37 v_1372 rfl (by decide) (by decide) rfl r_mx_4 ?_
      refine ab_iconst (v := 2) d_M_swaps_40 rfl ?_
      refine ab_iald d_M_swaps_41 rfl rfl (by unfold vp_in; decide) ?_
      refine ab_bipush (v := 60) d_M_swaps_42 rfl ?_
      refine ab_irem d_M_swaps_44 (by decide) ?_
      refine ab_imul d_M_swaps_45 ?_
      refine ab_iadd d_M_swaps_46 ?_
      refine ab_istore (i := 7) d_M_swaps_47 (by decide) (Or.inr rfl) ?_
      refine ab_aload_n (i := 0) d_M_swaps_49 rfl rfl ?_
      refine ab_getR (ci := 11) (k := 4) (j := mx_now) d_M_swaps_50 v_1372 rfl (by decide) (by decide) rfl r_mx_4 ?_
      refine ab_iload (i := 7) d_M_swaps_53 rfl ?_
      refine ab_iload_n (i := 1) d_M_swaps_55 rfl rfl ?_
      have g23 := h.1; have h := h.2
      refine ab_iast d_M_swaps_56 rfl rfl g23 ?_
      refine ab_aload_n (i := 0) d_M_swaps_57 rfl rfl ?_
      refine ab_getR (ci := 11) (k := 4) (j := mx_now) d_M_swaps_58 v_1372 rfl (by decide) (by decide) rfl r_mx_4 ?_
      refine ab_iload (i := 7) d_M_swaps_61 rfl ?_
      refine ab_iconst (v := 1) d_M_swaps_63 rfl ?_
      refine ab_iadd d_M_swaps_64 ?_
      refine ab_iload_n (i := 2) d_M_swaps_65 rfl rfl ?_
      have g24 := h.1; have h := h.2
      refine ab_iast d_M_swaps_66 rfl rfl g24 ?_
      refine ab_aload_n (i := 0) d_M_swaps_67 rfl rfl ?_
      refine ab_getR (ci := 11) (k := 4) (j := mx_now) d_M_swaps_68 v_1372 rfl (by decide) (by decide) rfl r_mx_4 ?_
      refine ab_iload (i := 7) d_M_swaps_71 rfl ?_
      refine ab_iconst (v := 2) d_M_swaps_73 rfl ?_
      refine ab_iadd d_M_swaps_74 ?_
      refine ab_iload (i := 5) d_M_swaps_75 rfl ?_
      refine ab_if_ne (tgt := 84) d_M_swaps_77 (by decide) (fun c25 => ?_) (fun c25 => ?_)
      · have h := h.1 c25
        refine ab_iload (i := 5) d_M_swaps_84 rfl ?_
        obtain ⟨r26, hC, h⟩ := h
        refine ab_callS (me2 := mt_Integer_numberOfTrailingZeros) (as := [.int (v3 &&& (r1 ^^^ (-1)))]) (st := [.int ((99 + (5 * ((I2 mx_now 2) - (I2 mx_now 2) / 60 * 60))) + 2), .ref mx_now]) (rv := (some (.int r26))) (M2 := ((ab_up (ab_up I2 mx_now (99 + (5 * ((I2 mx_now 2) - (I2 mx_now 2) / 60 * 60))).toNatClampNeg v1) mx_now ((99 + (5 * ((I2 mx_now 2) - (I2 mx_now 2) / 60 * 60))) + 1).toNatClampNeg v2), L, ab_RR, n, nc, ns)) d_M_swaps_86 ce_Integer_numberOfTrailingZeros ⟨v_1917, Or.inl v_1916⟩ (Nat.le_of_ble_eq_true rfl) hC (Nat.le_refl _) (Nat.le_refl _) hc hs (fun j h9 => by cases h9) (fun _ _ => rfl) ?_
        show ab_E w (d + 1) mt_M_swaps 89 [.ref mx, .int v1, .int v2, .int v3, .int r1, .int (v3 &&& (r1 ^^^ (-1))), .int (r1 &&& (v3 ^^^ (-1))), .int (99 + (5 * ((I2 mx_now 2) - (I2 mx_now 2) / 60 * 60)))] [.int r26, .int ((99 + (5 * ((I2 mx_now 2) - (I2 mx_now 2) / 60 * 60))) + 2), .ref mx_now] ((ab_up (ab_up I2 mx_now (99 + (5 * ((I2 mx_now 2) - (I2 mx_now 2) / 60 * 60))).toNatClampNeg v1) mx_now ((99 + (5 * ((I2 mx_now 2) - (I2 mx_now 2) / 60 * 60))) + 1).toNatClampNeg v2), L, ab_RR, n, nc, ns) res
        have g27 := h.1; have h := h.2
        refine ab_iast d_M_swaps_89 rfl rfl g27 ?_
        refine ab_aload_n (i := 0) d_M_swaps_90 rfl rfl ?_
        refine ab_getR (ci := 11) (k := 4) (j := mx_now) d_M_swaps_91 v_1372 rfl (by decide) (by decide) rfl r_mx_4 ?_
        refine ab_iload (i := 7) d_M_swaps_94 rfl ?_
        refine ab_iconst (v := 3) d_M_swaps_96 rfl ?_
        refine ab_iadd d_M_swaps_97 ?_
        refine ab_iload (i := 6) d_M_swaps_98 rfl ?_
        refine ab_if_ne (tgt := 107) d_M_swaps_100 (by decide) (fun c28 => ?_) (fun c28 => ?_)
        · have h := h.1 c28
          refine ab_iload (i := 6) d_M_swaps_107 rfl ?_
          obtain ⟨r29, hC, h⟩ := h
          refine ab_callS (me2 := mt_Integer_numberOfTrailingZeros) (as := [.int (r1 &&& (v3 ^^^ (-1)))]) (st := [.int ((99 + (5 * ((I2 mx_now 2) - (I2 mx_now 2) / 60 * 60))) + 3), .ref mx_now]) (rv := (some (.int r29))) (M2 := ((ab_up (ab_up (ab_up I2 mx_now (99 + (5 * ((I2 mx_now 2) - (I2 mx_now 2) / 60 * 60))).toNatClampNeg v1) mx_now ((99 + (5 * ((I2 mx_now 2) - (I2 mx_now 2) / 60 * 60))) + 1).toNatClampNeg v2) mx_now ((99 + (5 * ((I2 mx_now 2) - (I2 mx_now 2) / 60 * 60))) + 2).toNatClampNeg r26), L, ab_RR, n, nc, ns)) d_M_swaps_109 ce_Integer_numberOfTrailingZeros ⟨v_1917, Or.inl v_1916⟩ (Nat.le_of_ble_eq_true rfl) hC (Nat.le_refl _) (Nat.le_refl _) hc hs (fun j h9 => by cases h9) (fun _ _ => rfl) ?_
          show ab_E w (d + 1) mt_M_swaps 112 [.ref mx, .int v1, .int v2, .int v3, .int r1, .int (v3 &&& (r1 ^^^ (-1))), .int (r1 &&& (v3 ^^^ (-1))), .int (99 + (5 * ((I2 mx_now 2) - (I2 mx_now 2) / 60 * 60)))] [.int r29, .int ((99 + (5 * ((I2 mx_now 2) - (I2 mx_now 2) / 60 * 60))) + 3), .ref mx_now] ((ab_up (ab_up (ab_up I2 mx_now (99 + (5 * ((I2 mx_now 2) - (I2 mx_now 2) / 60 * 60))).toNatClampNeg v1) mx_now ((99 + (5 * ((I2 mx_now 2) - (I2 mx_now 2) / 60 * 60))) + 1).toNatClampNeg v2) mx_now ((99 + (5 * ((I2 mx_now 2) - (I2 mx_now 2) / 60 * 60))) + 2).toNatClampNeg r26), L, ab_RR, n, nc, ns) res
          have g30 := h.1; have h := h.2
          refine ab_iast d_M_swaps_112 rfl rfl g30 ?_
          refine ab_aload_n (i := 0) d_M_swaps_113 rfl rfl ?_
          refine ab_getR (ci := 11) (k := 4) (j := mx_now) d_M_swaps_114 v_1372 rfl (by decide) (by decide) rfl r_mx_4 ?_
          refine ab_iload (i := 7) d_M_swaps_117 rfl ?_
          refine ab_iconst (v := 4) d_M_swaps_119 rfl ?_
          refine ab_iadd d_M_swaps_120 ?_
          refine ab_aload_n (i := 0) d_M_swaps_121 rfl rfl ?_
          refine ab_getI (ci := 11) (k := 22) d_M_swaps_122 v_1390 rfl (by decide) (by decide) rfl ?_
          have g31 := h.1; have h := h.2
          refine ab_iast d_M_swaps_125 rfl rfl g31 ?_
          refine ab_aload_n (i := 0) d_M_swaps_126 rfl rfl ?_
          refine ab_getR (ci := 11) (k := 4) (j := mx_now) d_M_swaps_127 v_1372 rfl (by decide) (by decide) rfl r_mx_4 ?_
          refine ab_iconst (v := 2) d_M_swaps_130 rfl ?_
          refine ab_dup2 d_M_swaps_131 ?_
          refine ab_iald d_M_swaps_132 rfl rfl (by unfold vp_in; decide) ?_
          refine ab_iconst (v := 1) d_M_swaps_133 rfl ?_
          refine ab_iadd d_M_swaps_134 ?_
          refine ab_iast d_M_swaps_135 rfl rfl (by unfold vp_in; decide) ?_
          exact ab_vret d_M_swaps_136 rfl h
        · have h := h.2 c28
          refine ab_iconst (v := (-1)) d_M_swaps_103 rfl ?_
          refine ab_goto (tgt := 112) d_M_swaps_104 (by decide) ?_
          have g32 := h.1; have h := h.2
          refine ab_iast d_M_swaps_112 rfl rfl g32 ?_
          refine ab_aload_n (i := 0) d_M_swaps_113 rfl rfl ?_
          refine ab_getR (ci := 11) (k := 4) (j := mx_now) d_M_swaps_114 v_1372 rfl (by decide) (by decide) rfl r_mx_4 ?_
          refine ab_iload (i := 7) d_M_swaps_117 rfl ?_
          refine ab_iconst (v := 4) d_M_swaps_119 rfl ?_
          refine ab_iadd d_M_swaps_120 ?_
          refine ab_aload_n (i := 0) d_M_swaps_121 rfl rfl ?_
          refine ab_getI (ci := 11) (k := 22) d_M_swaps_122 v_1390 rfl (by decide) (by decide) rfl ?_
          have g33 := h.1; have h := h.2
          refine ab_iast d_M_swaps_125 rfl rfl g33 ?_
          refine ab_aload_n (i := 0) d_M_swaps_126 rfl rfl ?_
          refine ab_getR (ci := 11) (k := 4) (j := mx_now) d_M_swaps_127 v_1372 rfl (by decide) (by decide) rfl r_mx_4 ?_
          refine ab_iconst (v := 2) d_M_swaps_130 rfl ?_
          refine ab_dup2 d_M_swaps_131 ?_
          refine ab_iald d_M_swaps_132 rfl rfl (by unfold vp_in; decide) ?_
          refine ab_iconst (v := 1) d_M_swaps_133 rfl ?_
          refine ab_iadd d_M_swaps_134 ?_
          refine ab_iast d_M_swaps_135 rfl rfl (by unfold vp_in; decide) ?_
          exact ab_vret d_M_swaps_136 rfl h
      · have h := h.2 c25
        refine ab_iconst (v := (-1)) d_M_swaps_80 rfl ?_
        refine ab_goto (tgt := 89) d_M_swaps_81 (by decide) ?_
        have g34 := h.1; have h := h.2
        refine ab_iast d_M_swaps_89 rfl rfl g34 ?_
        refine ab_aload_n (i := 0) d_M_swaps_90 rfl rfl ?_
        refine ab_getR (ci := 11) (k := 4) (j := mx_now) d_M_swaps_91 v_1372 rfl (by decide) (by decide) rfl r_mx_4 ?_
        refine ab_iload (i := 7) d_M_swaps_94 rfl ?_
        refine ab_iconst (v := 3) d_M_swaps_96 rfl ?_
        refine ab_iadd d_M_swaps_97 ?_
        refine ab_iload (i := 6) d_M_swaps_98 rfl ?_
        refine ab_if_ne (tgt := 107) d_M_swaps_100 (by decide) (fun c35 => ?_) (fun c35 => ?_)
        · have h := h.1 c35
          refine ab_iload (i := 6) d_M_swaps_107 rfl ?_
          obtain ⟨r36, hC, h⟩ := h
          refine ab_callS (me2 := mt_Integer_numberOfTrailingZeros) (as := [.int (r1 &&& (v3 ^^^ (-1)))]) (st := [.int ((99 + (5 * ((I2 mx_now 2) - (I2 mx_now 2) / 60 * 60))) + 3), .ref mx_now]) (rv := (some (.int r36))) (M2 := ((ab_up (ab_up (ab_up I2 mx_now (99 + (5 * ((I2 mx_now 2) - (I2 mx_now 2) / 60 * 60))).toNatClampNeg v1) mx_now ((99 + (5 * ((I2 mx_now 2) - (I2 mx_now 2) / 60 * 60))) + 1).toNatClampNeg v2) mx_now ((99 + (5 * ((I2 mx_now 2) - (I2 mx_now 2) / 60 * 60))) + 2).toNatClampNeg (-1)), L, ab_RR, n, nc, ns)) d_M_swaps_109 ce_Integer_numberOfTrailingZeros ⟨v_1917, Or.inl v_1916⟩ (Nat.le_of_ble_eq_true rfl) hC (Nat.le_refl _) (Nat.le_refl _) hc hs (fun j h9 => by cases h9) (fun _ _ => rfl) ?_
          show ab_E w (d + 1) mt_M_swaps 112 [.ref mx, .int v1, .int v2, .int v3, .int r1, .int (v3 &&& (r1 ^^^ (-1))), .int (r1 &&& (v3 ^^^ (-1))), .int (99 + (5 * ((I2 mx_now 2) - (I2 mx_now 2) / 60 * 60)))] [.int r36, .int ((99 + (5 * ((I2 mx_now 2) - (I2 mx_now 2) / 60 * 60))) + 3), .ref mx_now] ((ab_up (ab_up (ab_up I2 mx_now (99 + (5 * ((I2 mx_now 2) - (I2 mx_now 2) / 60 * 60))).toNatClampNeg v1) mx_now ((99 + (5 * ((I2 mx_now 2) - (I2 mx_now 2) / 60 * 60))) + 1).toNatClampNeg v2) mx_now ((99 + (5 * ((I2 mx_now 2) - (I2 mx_now 2) / 60 * 60))) + 2).toNatClampNeg (-1)), L, ab_RR, n, nc, ns) res
          have g37 := h.1; have h := h.2
          refine ab_iast d_M_swaps_112 rfl rfl g37 ?_
          refine ab_aload_n (i := 0) d_M_swaps_113 rfl rfl ?_
          refine ab_getR (ci := 11) (k := 4) (j := mx_now) d_M_swaps_114 v_1372 rfl (by decide) (by decide) rfl r_mx_4 ?_
          refine ab_iload (i := 7) d_M_swaps_117 rfl ?_
          refine ab_iconst (v := 4) d_M_swaps_119 rfl ?_
          refine ab_iadd d_M_swaps_120 ?_
          refine ab_aload_n (i := 0) d_M_swaps_121 rfl rfl ?_
          refine ab_getI (ci := 11) (k := 22) d_M_swaps_122 v_1390 rfl (by decide) (by decide) rfl ?_
          have g38 := h.1; have h := h.2
          refine ab_iast d_M_swaps_125 rfl rfl g38 ?_
          refine ab_aload_n (i := 0) d_M_swaps_126 rfl rfl ?_
          refine ab_getR (ci := 11) (k := 4) (j := mx_now) d_M_swaps_127 v_1372 rfl (by decide) (by decide) rfl r_mx_4 ?_
          refine ab_iconst (v := 2) d_M_swaps_130 rfl ?_
          refine ab_dup2 d_M_swaps_131 ?_
          refine ab_iald d_M_swaps_132 rfl rfl (by unfold vp_in; decide) ?_
          refine ab_iconst (v := 1) d_M_swaps_133 rfl ?_
          refine ab_iadd d_M_swaps_134 ?_
          refine ab_iast d_M_swaps_135 rfl rfl (by unfold vp_in; decide) ?_
          exact ab_vret d_M_swaps_136 rfl h
        · have h := h.2 c35
          refine ab_iconst (v := (-1)) d_M_swaps_103 rfl ?_
          refine ab_goto (tgt := 112) d_M_swaps_104 (by decide) ?_
          have g39 := h.1; have h := h.2
          refine ab_iast d_M_swaps_112 rfl rfl g39 ?_
          refine ab_aload_n (i := 0) d_M_swaps_113 rfl rfl ?_
          refine ab_getR (ci := 11) (k := 4) (j := mx_now) d_M_swaps_114 v_1372 rfl (by decide) (by decide) rfl r_mx_4 ?_
          refine ab_iload (i := 7) d_M_swaps_117 rfl ?_
          refine ab_iconst (v := 4) d_M_swaps_119 rfl ?_
          refine ab_iadd d_M_swaps_120 ?_
          refine ab_aload_n (i := 0) d_M_swaps_121 rfl rfl ?_
          refine ab_getI (ci := 11) (k := 22) d_M_swaps_122 v_1390 rfl (by decide) (by decide) rfl ?_
          have g40 := h.1; have h := h.2
          refine ab_iast d_M_swaps_125 rfl rfl g40 ?_
          refine ab_aload_n (i := 0) d_M_swaps_126 rfl rfl ?_
          refine ab_getR (ci := 11) (k := 4) (j := mx_now) d_M_swaps_127 v_1372 rfl (by decide) (by decide) rfl r_mx_4 ?_
          refine ab_iconst (v := 2) d_M_swaps_130 rfl ?_
          refine ab_dup2 d_M_swaps_131 ?_
          refine ab_iald d_M_swaps_132 rfl rfl (by unfold vp_in; decide) ?_
          refine ab_iconst (v := 1) d_M_swaps_133 rfl ?_
          refine ab_iadd d_M_swaps_134 ?_
          refine ab_iast d_M_swaps_135 rfl rfl (by unfold vp_in; decide) ?_
          exact ab_vret d_M_swaps_136 rfl h
    · have h := h.2 c22
      exact ab_vret d_M_swaps_32 rfl h
theorem r_M_pricesNow_0 {w : ab_Wd} {d n nc ns : Nat} {I : Nat → Nat → Int32} {L : Nat → Nat → Int64} {res : ab_Re} (hT : w.1.stackTraces = false) (v1 : Int32) (v2 : Int32) (hc : nc ≤ res.2.2.2.2.2.1) (hs : ns ≤ res.2.2.2.2.2.2)
    (h : (vp_in (51 + v1) 399) ∧ ((¬ v2 = (I mx_now (51 + v1).toNatClampNeg) → (∃ (r4 : Int32) (I5 : Nat → Nat → Int32), ab_C w d mt_M_netNow [.ref mx] (I, L, ab_RR, n, nc, ns) (.inl (some (.int r4)), (I5, L, ab_RR, n, nc, ns)) ∧ ((((((ab_up I5 mx_now (51 + v1).toNatClampNeg v2) mx_now 1) >>> (v1 &&& 31)) &&& 1) = 1 → ((v2 ≤ (I mx_now (51 + v1).toNatClampNeg) → (∃ (I10 : Nat → Nat → Int32), ab_C w d mt_M_swaps [.ref mx, .int 2, .int v1, .int r4] ((ab_up I5 mx_now (51 + v1).toNatClampNeg v2), L, ab_RR, n, nc, ns) (.inl none, (I10, L, ab_RR, n, nc, ns)) ∧ res = (.inl none, (I10, L, ab_RR, n, nc, ns)))) ∧ (¬ v2 ≤ (I mx_now (51 + v1).toNatClampNeg) → (∃ (I12 : Nat → Nat → Int32), ab_C w d mt_M_swaps [.ref mx, .int 1, .int v1, .int r4] ((ab_up I5 mx_now (51 + v1).toNatClampNeg v2), L, ab_RR, n, nc, ns) (.inl none, (I12, L, ab_RR, n, nc, ns)) ∧ res = (.inl none, (I12, L, ab_RR, n, nc, ns)))))) ∧ (¬ ((((ab_up I5 mx_now (51 + v1).toNatClampNeg v2) mx_now 1) >>> (v1 &&& 31)) &&& 1) = 1 → (res = (.inl none, ((ab_up I5 mx_now (51 + v1).toNatClampNeg v2), L, ab_RR, n, nc, ns))))))) ∧ (v2 = (I mx_now (51 + v1).toNatClampNeg) → (res = (.inl none, (I, L, ab_RR, n, nc, ns)))))) : ab_E w (d + 1) mt_M_pricesNow 0 [.ref mx, .int v1, .int v2, .null, .null] [] (I, L, ab_RR, n, nc, ns) res := by
  refine ab_aload_n (i := 0) d_M_pricesNow_0 rfl rfl ?_
  refine ab_iload_n (i := 1) d_M_pricesNow_1 rfl rfl ?_
  have g2 := h.1; have h := h.2
  refine ab_callV (me2 := mt_M_priceOf) (b := mx) (as := [.int v1]) (st := []) (rv := (some (.int (I mx_now (51 + v1).toNatClampNeg)))) (M2 := (I, L, ab_RR, n, nc, ns)) d_M_pricesNow_2 ce_M_priceOf v_1654 v_1656 v_83 (by decide) rfl (Nat.le_of_ble_eq_true rfl) (cx_M_priceOf_0 v1 hT g2) (Nat.le_refl _) (Nat.le_refl _) hc hs (fun j h9 => by cases h9) (fun _ _ => rfl) ?_
  show ab_E w (d + 1) mt_M_pricesNow 5 [.ref mx, .int v1, .int v2, .null, .null] [.int (I mx_now (51 + v1).toNatClampNeg)] (I, L, ab_RR, n, nc, ns) res
  refine ab_istore_n (i := 3) d_M_pricesNow_5 rfl (by decide) (Or.inr rfl) ?_
  refine ab_iload_n (i := 2) d_M_pricesNow_6 rfl rfl ?_
  refine ab_iload_n (i := 3) d_M_pricesNow_7 rfl rfl ?_
  refine ab_icmp_ne (tgt := 12) d_M_pricesNow_8 (by decide) (fun c3 => ?_) (fun c3 => ?_)
  · have h := h.1 c3
    refine ab_aload_n (i := 0) d_M_pricesNow_12 rfl rfl ?_
    obtain ⟨r4, I5, hC, h⟩ := h
    refine ab_callV (me2 := mt_M_netNow) (b := mx) (as := []) (st := []) (rv := (some (.int r4))) (M2 := (I5, L, ab_RR, n, nc, ns)) d_M_pricesNow_13 ce_M_netNow v_1639 v_1641 v_80 (by decide) rfl (Nat.le_of_ble_eq_true rfl) hC (Nat.le_refl _) (Nat.le_refl _) hc hs (fun j h9 => by cases h9) (fun _ _ => rfl) ?_
    show ab_E w (d + 1) mt_M_pricesNow 16 [.ref mx, .int v1, .int v2, .int (I mx_now (51 + v1).toNatClampNeg), .null] [.int r4] (I5, L, ab_RR, n, nc, ns) res
    refine ab_istore (i := 4) d_M_pricesNow_16 (by decide) (Or.inr rfl) ?_
    refine ab_aload_n (i := 0) d_M_pricesNow_18 rfl rfl ?_
    refine ab_getR (ci := 11) (k := 4) (j := mx_now) d_M_pricesNow_19 v_1372 rfl (by decide) (by decide) rfl r_mx_4 ?_
    refine ab_bipush (v := 51) d_M_pricesNow_22 rfl ?_
    refine ab_iload_n (i := 1) d_M_pricesNow_24 rfl rfl ?_
    refine ab_iadd d_M_pricesNow_25 ?_
    refine ab_iload_n (i := 2) d_M_pricesNow_26 rfl rfl ?_
    refine ab_iast d_M_pricesNow_27 rfl rfl g2 ?_
    refine ab_aload_n (i := 0) d_M_pricesNow_28 rfl rfl ?_
    refine ab_iload_n (i := 1) d_M_pricesNow_29 rfl rfl ?_
    by_cases c7 : ((((ab_up I5 mx_now (51 + v1).toNatClampNeg v2) mx_now 1) >>> (v1 &&& 31)) &&& 1) = 1
    · have h := h.1 c7
      refine ab_callV (me2 := mt_M_isSound) (b := mx) (as := [.int v1]) (st := []) (rv := (some (.int 1))) (M2 := ((ab_up I5 mx_now (51 + v1).toNatClampNeg v2), L, ab_RR, n, nc, ns)) d_M_pricesNow_30 ce_M_isSound v_1679 v_1681 v_89 (by decide) rfl (Nat.le_of_ble_eq_true rfl) (cx_M_isSound_1 v1 hT (show (vp_in 1 399) from by unfold vp_in; decide) c7) (Nat.le_refl _) (Nat.le_refl _) hc hs (fun j h9 => by cases h9) (fun _ _ => rfl) ?_
      show ab_E w (d + 1) mt_M_pricesNow 33 [.ref mx, .int v1, .int v2, .int (I mx_now (51 + v1).toNatClampNeg), .int r4] [.int 1] ((ab_up I5 mx_now (51 + v1).toNatClampNeg v2), L, ab_RR, n, nc, ns) res
      refine ab_if_eq (tgt := 53) d_M_pricesNow_33 (by decide) (fun c9 => absurd c9 (show ¬ (1 : Int32) = 0 from by decide)) (fun _ => ?_)
      refine ab_aload_n (i := 0) d_M_pricesNow_36 rfl rfl ?_
      refine ab_iload_n (i := 2) d_M_pricesNow_37 rfl rfl ?_
      refine ab_iload_n (i := 3) d_M_pricesNow_38 rfl rfl ?_
      refine ab_icmp_le (tgt := 46) d_M_pricesNow_39 (by decide) (fun c8 => ?_) (fun c8 => ?_)
      · have h := h.1 c8
        refine ab_iconst (v := 2) d_M_pricesNow_46 rfl ?_
        refine ab_iload_n (i := 1) d_M_pricesNow_47 rfl rfl ?_
        refine ab_iload (i := 4) d_M_pricesNow_48 rfl ?_
        obtain ⟨I10, hC, h⟩ := h
        refine ab_callV (me2 := mt_M_swaps) (b := mx) (as := [.int 2, .int v1, .int r4]) (st := []) (rv := none) (M2 := (I10, L, ab_RR, n, nc, ns)) d_M_pricesNow_50 ce_M_swaps v_1912 v_1914 v_131 (by decide) rfl (Nat.le_of_ble_eq_true rfl) hC (Nat.le_refl _) (Nat.le_refl _) hc hs (fun j h9 => by cases h9) (fun _ _ => rfl) ?_
        show ab_E w (d + 1) mt_M_pricesNow 53 [.ref mx, .int v1, .int v2, .int (I mx_now (51 + v1).toNatClampNeg), .int r4] [] (I10, L, ab_RR, n, nc, ns) res
        exact ab_vret d_M_pricesNow_53 rfl h
      · have h := h.2 c8
        refine ab_iconst (v := 1) d_M_pricesNow_42 rfl ?_
        refine ab_goto (tgt := 47) d_M_pricesNow_43 (by decide) ?_
        refine ab_iload_n (i := 1) d_M_pricesNow_47 rfl rfl ?_
        refine ab_iload (i := 4) d_M_pricesNow_48 rfl ?_
        obtain ⟨I12, hC, h⟩ := h
        refine ab_callV (me2 := mt_M_swaps) (b := mx) (as := [.int 1, .int v1, .int r4]) (st := []) (rv := none) (M2 := (I12, L, ab_RR, n, nc, ns)) d_M_pricesNow_50 ce_M_swaps v_1912 v_1914 v_131 (by decide) rfl (Nat.le_of_ble_eq_true rfl) hC (Nat.le_refl _) (Nat.le_refl _) hc hs (fun j h9 => by cases h9) (fun _ _ => rfl) ?_
        show ab_E w (d + 1) mt_M_pricesNow 53 [.ref mx, .int v1, .int v2, .int (I mx_now (51 + v1).toNatClampNeg), .int r4] [] (I12, L, ab_RR, n, nc, ns) res
        exact ab_vret d_M_pricesNow_53 rfl h
    · have h := h.2 c7
      refine ab_callV (me2 := mt_M_isSound) (b := mx) (as := [.int v1]) (st := []) (rv := (some (.int 0))) (M2 := ((ab_up I5 mx_now (51 + v1).toNatClampNeg v2), L, ab_RR, n, nc, ns)) d_M_pricesNow_30 ce_M_isSound v_1679 v_1681 v_89 (by decide) rfl (Nat.le_of_ble_eq_true rfl) (cx_M_isSound_0 v1 hT (show (vp_in 1 399) from by unfold vp_in; decide) c7) (Nat.le_refl _) (Nat.le_refl _) hc hs (fun j h9 => by cases h9) (fun _ _ => rfl) ?_
      show ab_E w (d + 1) mt_M_pricesNow 33 [.ref mx, .int v1, .int v2, .int (I mx_now (51 + v1).toNatClampNeg), .int r4] [.int 0] ((ab_up I5 mx_now (51 + v1).toNatClampNeg v2), L, ab_RR, n, nc, ns) res
      refine ab_if_eq (tgt := 53) d_M_pricesNow_33 (by decide) (fun _ => ?_) (fun c9 => absurd (show (0 : Int32) = 0 from by decide) c9)
      exact ab_vret d_M_pricesNow_53 rfl h
  · have h := h.2 c3
    exact ab_vret d_M_pricesNow_11 rfl h
theorem r_M_turnsNow_0 {w : ab_Wd} {d n nc ns : Nat} {I : Nat → Nat → Int32} {L : Nat → Nat → Int64} {res : ab_Re} (hT : w.1.stackTraces = false) (v1 : Int32) (hc : nc ≤ res.2.2.2.2.2.1) (hs : ns ≤ res.2.2.2.2.2.2)
    (h : ∃ (r1 : Int32) (I2 : Nat → Nat → Int32), ab_C w d mt_M_netNow [.ref mx] (I, L, ab_RR, n, nc, ns) (.inl (some (.int r1)), (I2, L, ab_RR, n, nc, ns)) ∧ ((((((I2 mx_now 1) ^^^ ((1 : Int32) <<< (v1 &&& 31))) >>> (v1 &&& 31)) &&& 1) = 1 → (∃ (I6 : Nat → Nat → Int32), ab_C w d mt_M_swaps [.ref mx, .int 4, .int v1, .int r1] ((ab_up I2 mx_now 1 ((I2 mx_now 1) ^^^ ((1 : Int32) <<< (v1 &&& 31)))), L, ab_RR, n, nc, ns) (.inl none, (I6, L, ab_RR, n, nc, ns)) ∧ res = (.inl none, (I6, L, ab_RR, n, nc, ns)))) ∧ (¬ ((((I2 mx_now 1) ^^^ ((1 : Int32) <<< (v1 &&& 31))) >>> (v1 &&& 31)) &&& 1) = 1 → (∃ (I8 : Nat → Nat → Int32), ab_C w d mt_M_swaps [.ref mx, .int 3, .int v1, .int r1] ((ab_up I2 mx_now 1 ((I2 mx_now 1) ^^^ ((1 : Int32) <<< (v1 &&& 31)))), L, ab_RR, n, nc, ns) (.inl none, (I8, L, ab_RR, n, nc, ns)) ∧ res = (.inl none, (I8, L, ab_RR, n, nc, ns)))))) : ab_E w (d + 1) mt_M_turnsNow 0 [.ref mx, .int v1, .null] [] (I, L, ab_RR, n, nc, ns) res := by
  refine ab_aload_n (i := 0) d_M_turnsNow_0 rfl rfl ?_
  obtain ⟨r1, I2, hC, h⟩ := h
  refine ab_callV (me2 := mt_M_netNow) (b := mx) (as := []) (st := []) (rv := (some (.int r1))) (M2 := (I2, L, ab_RR, n, nc, ns)) d_M_turnsNow_1 ce_M_netNow v_1639 v_1641 v_80 (by decide) rfl (Nat.le_of_ble_eq_true rfl) hC (Nat.le_refl _) (Nat.le_refl _) hc hs (fun j h9 => by cases h9) (fun _ _ => rfl) ?_
  show ab_E w (d + 1) mt_M_turnsNow 4 [.ref mx, .int v1, .null] [.int r1] (I2, L, ab_RR, n, nc, ns) res
  refine ab_istore_n (i := 2) d_M_turnsNow_4 rfl (by decide) (Or.inr rfl) ?_
  refine ab_aload_n (i := 0) d_M_turnsNow_5 rfl rfl ?_
  refine ab_getR (ci := 11) (k := 4) (j := mx_now) d_M_turnsNow_6 v_1372 rfl (by decide) (by decide) rfl r_mx_4 ?_
  refine ab_iconst (v := 1) d_M_turnsNow_9 rfl ?_
  refine ab_dup2 d_M_turnsNow_10 ?_
  refine ab_iald d_M_turnsNow_11 rfl rfl (by unfold vp_in; decide) ?_
  refine ab_iconst (v := 1) d_M_turnsNow_12 rfl ?_
  refine ab_iload_n (i := 1) d_M_turnsNow_13 rfl rfl ?_
  refine ab_ishl d_M_turnsNow_14 ?_
  refine ab_ixor d_M_turnsNow_15 ?_
  refine ab_iast d_M_turnsNow_16 rfl rfl (by unfold vp_in; decide) ?_
  refine ab_aload_n (i := 0) d_M_turnsNow_17 rfl rfl ?_
  refine ab_aload_n (i := 0) d_M_turnsNow_18 rfl rfl ?_
  refine ab_iload_n (i := 1) d_M_turnsNow_19 rfl rfl ?_
  by_cases c4 : ((((I2 mx_now 1) ^^^ ((1 : Int32) <<< (v1 &&& 31))) >>> (v1 &&& 31)) &&& 1) = 1
  · have h := h.1 c4
    refine ab_callV (me2 := mt_M_isSound) (b := mx) (as := [.int v1]) (st := [.ref mx]) (rv := (some (.int 1))) (M2 := ((ab_up I2 mx_now 1 ((I2 mx_now 1) ^^^ ((1 : Int32) <<< (v1 &&& 31)))), L, ab_RR, n, nc, ns)) d_M_turnsNow_20 ce_M_isSound v_1679 v_1681 v_89 (by decide) rfl (Nat.le_of_ble_eq_true rfl) (cx_M_isSound_1 v1 hT (show (vp_in 1 399) from by unfold vp_in; decide) c4) (Nat.le_refl _) (Nat.le_refl _) hc hs (fun j h9 => by cases h9) (fun _ _ => rfl) ?_
    show ab_E w (d + 1) mt_M_turnsNow 23 [.ref mx, .int v1, .int r1] [.int 1, .ref mx] ((ab_up I2 mx_now 1 ((I2 mx_now 1) ^^^ ((1 : Int32) <<< (v1 &&& 31)))), L, ab_RR, n, nc, ns) res
    refine ab_if_eq (tgt := 30) d_M_turnsNow_23 (by decide) (fun c9 => absurd c9 (show ¬ (1 : Int32) = 0 from by decide)) (fun _ => ?_)
    refine ab_iconst (v := 4) d_M_turnsNow_26 rfl ?_
    refine ab_goto (tgt := 31) d_M_turnsNow_27 (by decide) ?_
    refine ab_iload_n (i := 1) d_M_turnsNow_31 rfl rfl ?_
    refine ab_iload_n (i := 2) d_M_turnsNow_32 rfl rfl ?_
    obtain ⟨I6, hC, h⟩ := h
    refine ab_callV (me2 := mt_M_swaps) (b := mx) (as := [.int 4, .int v1, .int r1]) (st := []) (rv := none) (M2 := (I6, L, ab_RR, n, nc, ns)) d_M_turnsNow_33 ce_M_swaps v_1912 v_1914 v_131 (by decide) rfl (Nat.le_of_ble_eq_true rfl) hC (Nat.le_refl _) (Nat.le_refl _) hc hs (fun j h9 => by cases h9) (fun _ _ => rfl) ?_
    show ab_E w (d + 1) mt_M_turnsNow 36 [.ref mx, .int v1, .int r1] [] (I6, L, ab_RR, n, nc, ns) res
    exact ab_vret d_M_turnsNow_36 rfl h
  · have h := h.2 c4
    refine ab_callV (me2 := mt_M_isSound) (b := mx) (as := [.int v1]) (st := [.ref mx]) (rv := (some (.int 0))) (M2 := ((ab_up I2 mx_now 1 ((I2 mx_now 1) ^^^ ((1 : Int32) <<< (v1 &&& 31)))), L, ab_RR, n, nc, ns)) d_M_turnsNow_20 ce_M_isSound v_1679 v_1681 v_89 (by decide) rfl (Nat.le_of_ble_eq_true rfl) (cx_M_isSound_0 v1 hT (show (vp_in 1 399) from by unfold vp_in; decide) c4) (Nat.le_refl _) (Nat.le_refl _) hc hs (fun j h9 => by cases h9) (fun _ _ => rfl) ?_
    show ab_E w (d + 1) mt_M_turnsNow 23 [.ref mx, .int v1, .int r1] [.int 0, .ref mx] ((ab_up I2 mx_now 1 ((I2 mx_now 1) ^^^ ((1 : Int32) <<< (v1 &&& 31)))), L, ab_RR, n, nc, ns) res
    refine ab_if_eq (tgt := 30) d_M_turnsNow_23 (by decide) (fun _ => ?_) (fun c9 => absurd (show (0 : Int32) = 0 from by decide) c9)
    refine ab_iconst (v := 3) d_M_turnsNow_30 rfl ?_
    refine ab_iload_n (i := 1) d_M_turnsNow_31 rfl rfl ?_
    refine ab_iload_n (i := 2) d_M_turnsNow_32 rfl rfl ?_
    obtain ⟨I8, hC, h⟩ := h
    refine ab_callV (me2 := mt_M_swaps) (b := mx) (as := [.int 3, .int v1, .int r1]) (st := []) (rv := none) (M2 := (I8, L, ab_RR, n, nc, ns)) d_M_turnsNow_33 ce_M_swaps v_1912 v_1914 v_131 (by decide) rfl (Nat.le_of_ble_eq_true rfl) hC (Nat.le_refl _) (Nat.le_refl _) hc hs (fun j h9 => by cases h9) (fun _ _ => rfl) ?_
    show ab_E w (d + 1) mt_M_turnsNow 36 [.ref mx, .int v1, .int r1] [] (I8, L, ab_RR, n, nc, ns) res
    exact ab_vret d_M_turnsNow_36 rfl h
theorem cx_M_otherEnd_0 {w : ab_Wd} {d n nc ns : Nat} {I : Nat → Nat → Int32} {L : Nat → Nat → Int64} (v1 : Int32) (v2 : Int32) (hT : w.1.stackTraces = false) (e1 : (vp_in (3 + v1) 399)) (e2 : ¬ (I mx_now (3 + v1).toNatClampNeg) = v2) (e3 : (vp_in (27 + v1) 399)) (e4 : ¬ (I mx_now (27 + v1).toNatClampNeg) = v2) : ab_C w d mt_M_otherEnd [.ref mx, .int v1, .int v2] (I, L, ab_RR, n, nc, ns) (.inl (some (.int (-1))), (I, L, ab_RR, n, nc, ns)) := by
  refine ab_C_of (by decide) rfl (Nat.le_of_ble_eq_true rfl) hT ?_
  have hc := Nat.le_refl nc
  have hs := Nat.le_refl ns
  refine ab_aload_n (i := 0) d_M_otherEnd_0 rfl rfl ?_
  refine ab_getR (ci := 11) (k := 4) (j := mx_now) d_M_otherEnd_1 v_1372 rfl (by decide) (by decide) rfl r_mx_4 ?_
  refine ab_iconst (v := 3) d_M_otherEnd_4 rfl ?_
  refine ab_iload_n (i := 1) d_M_otherEnd_5 rfl rfl ?_
  refine ab_iadd d_M_otherEnd_6 ?_
  refine ab_iald d_M_otherEnd_7 rfl rfl e1 ?_
  refine ab_iload_n (i := 2) d_M_otherEnd_8 rfl rfl ?_
  refine ab_icmp_ne (tgt := 24) d_M_otherEnd_9 (by decide) (fun _ => ?_) (fun c9 => absurd c9 e2)
  refine ab_aload_n (i := 0) d_M_otherEnd_24 rfl rfl ?_
  refine ab_getR (ci := 11) (k := 4) (j := mx_now) d_M_otherEnd_25 v_1372 rfl (by decide) (by decide) rfl r_mx_4 ?_
  refine ab_bipush (v := 27) d_M_otherEnd_28 rfl ?_
  refine ab_iload_n (i := 1) d_M_otherEnd_30 rfl rfl ?_
  refine ab_iadd d_M_otherEnd_31 ?_
  refine ab_iald d_M_otherEnd_32 rfl rfl e3 ?_
  refine ab_iload_n (i := 2) d_M_otherEnd_33 rfl rfl ?_
  refine ab_icmp_ne (tgt := 48) d_M_otherEnd_34 (by decide) (fun _ => ?_) (fun c9 => absurd c9 e4)
  refine ab_iconst (v := (-1)) d_M_otherEnd_48 rfl ?_
  exact ab_iret (ty := .int) d_M_otherEnd_49 rfl rfl rfl
theorem cx_M_otherEnd_1 {w : ab_Wd} {d n nc ns : Nat} {I : Nat → Nat → Int32} {L : Nat → Nat → Int64} (v1 : Int32) (v2 : Int32) (hT : w.1.stackTraces = false) (e1 : (vp_in (3 + v1) 399)) (e2 : ¬ (I mx_now (3 + v1).toNatClampNeg) = v2) (e3 : (vp_in (27 + v1) 399)) (e4 : (I mx_now (27 + v1).toNatClampNeg) = v2) (e5 : (vp_in (3 + v1) 399)) : ab_C w d mt_M_otherEnd [.ref mx, .int v1, .int v2] (I, L, ab_RR, n, nc, ns) (.inl (some (.int (I mx_now (3 + v1).toNatClampNeg))), (I, L, ab_RR, n, nc, ns)) := by
  refine ab_C_of (by decide) rfl (Nat.le_of_ble_eq_true rfl) hT ?_
  have hc := Nat.le_refl nc
  have hs := Nat.le_refl ns
  refine ab_aload_n (i := 0) d_M_otherEnd_0 rfl rfl ?_
  refine ab_getR (ci := 11) (k := 4) (j := mx_now) d_M_otherEnd_1 v_1372 rfl (by decide) (by decide) rfl r_mx_4 ?_
  refine ab_iconst (v := 3) d_M_otherEnd_4 rfl ?_
  refine ab_iload_n (i := 1) d_M_otherEnd_5 rfl rfl ?_
  refine ab_iadd d_M_otherEnd_6 ?_
  refine ab_iald d_M_otherEnd_7 rfl rfl e1 ?_
  refine ab_iload_n (i := 2) d_M_otherEnd_8 rfl rfl ?_
  refine ab_icmp_ne (tgt := 24) d_M_otherEnd_9 (by decide) (fun _ => ?_) (fun c9 => absurd c9 e2)
  refine ab_aload_n (i := 0) d_M_otherEnd_24 rfl rfl ?_
  refine ab_getR (ci := 11) (k := 4) (j := mx_now) d_M_otherEnd_25 v_1372 rfl (by decide) (by decide) rfl r_mx_4 ?_
  refine ab_bipush (v := 27) d_M_otherEnd_28 rfl ?_
  refine ab_iload_n (i := 1) d_M_otherEnd_30 rfl rfl ?_
  refine ab_iadd d_M_otherEnd_31 ?_
  refine ab_iald d_M_otherEnd_32 rfl rfl e3 ?_
  refine ab_iload_n (i := 2) d_M_otherEnd_33 rfl rfl ?_
  refine ab_icmp_ne (tgt := 48) d_M_otherEnd_34 (by decide) (fun c9 => absurd e4 c9) (fun _ => ?_)
  refine ab_aload_n (i := 0) d_M_otherEnd_37 rfl rfl ?_
  refine ab_getR (ci := 11) (k := 4) (j := mx_now) d_M_otherEnd_38 v_1372 rfl (by decide) (by decide) rfl r_mx_4 ?_
  refine ab_iconst (v := 3) d_M_otherEnd_41 rfl ?_
  refine ab_iload_n (i := 1) d_M_otherEnd_42 rfl rfl ?_
  refine ab_iadd d_M_otherEnd_43 ?_
  refine ab_iald d_M_otherEnd_44 rfl rfl e5 ?_
  refine ab_goto (tgt := 49) d_M_otherEnd_45 (by decide) ?_
  exact ab_iret (ty := .int) d_M_otherEnd_49 rfl rfl rfl
theorem cx_M_otherEnd_2 {w : ab_Wd} {d n nc ns : Nat} {I : Nat → Nat → Int32} {L : Nat → Nat → Int64} (v1 : Int32) (v2 : Int32) (hT : w.1.stackTraces = false) (e1 : (vp_in (3 + v1) 399)) (e2 : (I mx_now (3 + v1).toNatClampNeg) = v2) (e3 : (vp_in (27 + v1) 399)) : ab_C w d mt_M_otherEnd [.ref mx, .int v1, .int v2] (I, L, ab_RR, n, nc, ns) (.inl (some (.int (I mx_now (27 + v1).toNatClampNeg))), (I, L, ab_RR, n, nc, ns)) := by
  refine ab_C_of (by decide) rfl (Nat.le_of_ble_eq_true rfl) hT ?_
  have hc := Nat.le_refl nc
  have hs := Nat.le_refl ns
  refine ab_aload_n (i := 0) d_M_otherEnd_0 rfl rfl ?_
  refine ab_getR (ci := 11) (k := 4) (j := mx_now) d_M_otherEnd_1 v_1372 rfl (by decide) (by decide) rfl r_mx_4 ?_
  refine ab_iconst (v := 3) d_M_otherEnd_4 rfl ?_
  refine ab_iload_n (i := 1) d_M_otherEnd_5 rfl rfl ?_
  refine ab_iadd d_M_otherEnd_6 ?_
  refine ab_iald d_M_otherEnd_7 rfl rfl e1 ?_
  refine ab_iload_n (i := 2) d_M_otherEnd_8 rfl rfl ?_
  refine ab_icmp_ne (tgt := 24) d_M_otherEnd_9 (by decide) (fun c9 => absurd e2 c9) (fun _ => ?_)
  refine ab_aload_n (i := 0) d_M_otherEnd_12 rfl rfl ?_
  refine ab_getR (ci := 11) (k := 4) (j := mx_now) d_M_otherEnd_13 v_1372 rfl (by decide) (by decide) rfl r_mx_4 ?_
  refine ab_bipush (v := 27) d_M_otherEnd_16 rfl ?_
  refine ab_iload_n (i := 1) d_M_otherEnd_18 rfl rfl ?_
  refine ab_iadd d_M_otherEnd_19 ?_
  refine ab_iald d_M_otherEnd_20 rfl rfl e3 ?_
  refine ab_goto (tgt := 49) d_M_otherEnd_21 (by decide) ?_
  exact ab_iret (ty := .int) d_M_otherEnd_49 rfl rfl rfl
