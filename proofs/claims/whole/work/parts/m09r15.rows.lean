theorem r_M_spreads_0 {w : ab_Wd} {d n nc ns : Nat} {I : Nat → Nat → Int32} {L : Nat → Nat → Int64} {res : ab_Re} (hT : w.1.stackTraces = false) (v1 : Int32) (hc : nc ≤ res.2.2.2.2.2.1) (hs : ns ≤ res.2.2.2.2.2.2)
    (h : ab_E w (d + 1) mt_M_spreads 2 [.ref mx, .int v1, .int 1, .null, .null, .null] [] (I, L, ab_RR, n, nc, ns) res) : ab_E w (d + 1) mt_M_spreads 0 [.ref mx, .int v1, .null, .null, .null, .null] [] (I, L, ab_RR, n, nc, ns) res := by
  refine ab_iconst (v := 1) d_M_spreads_0 rfl ?_
  refine ab_istore_n (i := 2) d_M_spreads_1 rfl (by decide) (Or.inr rfl) ?_
  exact h
theorem r_M_spreads_2 {w : ab_Wd} {d n nc ns : Nat} {I : Nat → Nat → Int32} {L : Nat → Nat → Int64} {res : ab_Re} (hT : w.1.stackTraces = false) (v1 : Int32) (v2 : Int32) (hc : nc ≤ res.2.2.2.2.2.1) (hs : ns ≤ res.2.2.2.2.2.2)
    (h : ((v2 = 0 → (res = (.inl none, (I, L, ab_RR, n, nc, ns)))) ∧ (¬ v2 = 0 → (ab_E w (d + 1) mt_M_spreads 10 [.ref mx, .int v1, .int 0, .int 0, .null, .null] [] (I, L, ab_RR, n, nc, ns) res)))) : ab_E w (d + 1) mt_M_spreads 2 [.ref mx, .int v1, .int v2, .null, .null, .null] [] (I, L, ab_RR, n, nc, ns) res := by
  refine ab_iload_n (i := 2) d_M_spreads_2 rfl rfl ?_
  refine ab_if_eq (tgt := 133) d_M_spreads_3 (by decide) (fun c1 => ?_) (fun c1 => ?_)
  · have h := h.1 c1
    exact ab_vret d_M_spreads_133 rfl h
  · have h := h.2 c1
    refine ab_iconst (v := 0) d_M_spreads_6 rfl ?_
    refine ab_istore_n (i := 2) d_M_spreads_7 rfl (by decide) (Or.inr rfl) ?_
    refine ab_iconst (v := 0) d_M_spreads_8 rfl ?_
    refine ab_istore_n (i := 3) d_M_spreads_9 rfl (by decide) (Or.inr rfl) ?_
    exact h
theorem r_M_spreads_10 {w : ab_Wd} {d n nc ns : Nat} {I : Nat → Nat → Int32} {L : Nat → Nat → Int64} {res : ab_Re} (hT : w.1.stackTraces = false) (v1 : Int32) (v2 : Int32) (v3 : Int32) (hc : nc ≤ res.2.2.2.2.2.1) (hs : ns ≤ res.2.2.2.2.2.2)
    (h : (((I mx_now 0) ≤ v3 → (ab_E w (d + 1) mt_M_spreads 2 [.ref mx, .int v1, .int v2, .null, .null, .null] [] (I, L, ab_RR, n, nc, ns) res)) ∧ (¬ (I mx_now 0) ≤ v3 → (((((I mx_now 1) >>> (v3 &&& 31)) &&& 1) = 1 → ((vp_in (3 + v3) 399) ∧ (vp_in (27 + v3) 399) ∧ (vp_in ((10 * v1) + (I mx_now (27 + v3).toNatClampNeg)) 10240) ∧ (vp_in (51 + v3) 399) ∧ (vp_in ((10 * v1) + (I mx_now (3 + v3).toNatClampNeg)) 10240) ∧ ((((I mx_joint ((10 * v1) + (I mx_now (27 + v3).toNatClampNeg)).toNatClampNeg) + (I mx_now (51 + v3).toNatClampNeg)) < (I mx_joint ((10 * v1) + (I mx_now (3 + v3).toNatClampNeg)).toNatClampNeg) → (((((ab_up I mx_joint ((10 * v1) + (I mx_now (3 + v3).toNatClampNeg)).toNatClampNeg ((I mx_joint ((10 * v1) + (I mx_now (27 + v3).toNatClampNeg)).toNatClampNeg) + (I mx_now (51 + v3).toNatClampNeg))) mx_joint ((10 * v1) + (I mx_now (3 + v3).toNatClampNeg)).toNatClampNeg) + (I mx_now (51 + v3).toNatClampNeg)) < ((ab_up I mx_joint ((10 * v1) + (I mx_now (3 + v3).toNatClampNeg)).toNatClampNeg ((I mx_joint ((10 * v1) + (I mx_now (27 + v3).toNatClampNeg)).toNatClampNeg) + (I mx_now (51 + v3).toNatClampNeg))) mx_joint ((10 * v1) + (I mx_now (27 + v3).toNatClampNeg)).toNatClampNeg) → (ab_E w (d + 1) mt_M_spreads 10 [.ref mx, .int v1, .int 1, .int (v3 + 1), .null, .null] [] ((ab_up (ab_up I mx_joint ((10 * v1) + (I mx_now (3 + v3).toNatClampNeg)).toNatClampNeg ((I mx_joint ((10 * v1) + (I mx_now (27 + v3).toNatClampNeg)).toNatClampNeg) + (I mx_now (51 + v3).toNatClampNeg))) mx_joint ((10 * v1) + (I mx_now (27 + v3).toNatClampNeg)).toNatClampNeg (((ab_up I mx_joint ((10 * v1) + (I mx_now (3 + v3).toNatClampNeg)).toNatClampNeg ((I mx_joint ((10 * v1) + (I mx_now (27 + v3).toNatClampNeg)).toNatClampNeg) + (I mx_now (51 + v3).toNatClampNeg))) mx_joint ((10 * v1) + (I mx_now (3 + v3).toNatClampNeg)).toNatClampNeg) + (I mx_now (51 + v3).toNatClampNeg))), L, ab_RR, n, nc, ns) res)) ∧ (¬ (((ab_up I mx_joint ((10 * v1) + (I mx_now (3 + v3).toNatClampNeg)).toNatClampNeg ((I mx_joint ((10 * v1) + (I mx_now (27 + v3).toNatClampNeg)).toNatClampNeg) + (I mx_now (51 + v3).toNatClampNeg))) mx_joint ((10 * v1) + (I mx_now (3 + v3).toNatClampNeg)).toNatClampNeg) + (I mx_now (51 + v3).toNatClampNeg)) < ((ab_up I mx_joint ((10 * v1) + (I mx_now (3 + v3).toNatClampNeg)).toNatClampNeg ((I mx_joint ((10 * v1) + (I mx_now (27 + v3).toNatClampNeg)).toNatClampNeg) + (I mx_now (51 + v3).toNatClampNeg))) mx_joint ((10 * v1) + (I mx_now (27 + v3).toNatClampNeg)).toNatClampNeg) → (ab_E w (d + 1) mt_M_spreads 10 [.ref mx, .int v1, .int 1, .int (v3 + 1), .null, .null] [] ((ab_up I mx_joint ((10 * v1) + (I mx_now (3 + v3).toNatClampNeg)).toNatClampNeg ((I mx_joint ((10 * v1) + (I mx_now (27 + v3).toNatClampNeg)).toNatClampNeg) + (I mx_now (51 + v3).toNatClampNeg))), L, ab_RR, n, nc, ns) res)))) ∧ (¬ ((I mx_joint ((10 * v1) + (I mx_now (27 + v3).toNatClampNeg)).toNatClampNeg) + (I mx_now (51 + v3).toNatClampNeg)) < (I mx_joint ((10 * v1) + (I mx_now (3 + v3).toNatClampNeg)).toNatClampNeg) → ((v2 = 0 → ((((I mx_joint ((10 * v1) + (I mx_now (3 + v3).toNatClampNeg)).toNatClampNeg) + (I mx_now (51 + v3).toNatClampNeg)) < (I mx_joint ((10 * v1) + (I mx_now (27 + v3).toNatClampNeg)).toNatClampNeg) → (ab_E w (d + 1) mt_M_spreads 10 [.ref mx, .int v1, .int 1, .int (v3 + 1), .null, .null] [] ((ab_up I mx_joint ((10 * v1) + (I mx_now (27 + v3).toNatClampNeg)).toNatClampNeg ((I mx_joint ((10 * v1) + (I mx_now (3 + v3).toNatClampNeg)).toNatClampNeg) + (I mx_now (51 + v3).toNatClampNeg))), L, ab_RR, n, nc, ns) res)) ∧ (¬ ((I mx_joint ((10 * v1) + (I mx_now (3 + v3).toNatClampNeg)).toNatClampNeg) + (I mx_now (51 + v3).toNatClampNeg)) < (I mx_joint ((10 * v1) + (I mx_now (27 + v3).toNatClampNeg)).toNatClampNeg) → (ab_E w (d + 1) mt_M_spreads 10 [.ref mx, .int v1, .int 0, .int (v3 + 1), .null, .null] [] (I, L, ab_RR, n, nc, ns) res)))) ∧ (¬ v2 = 0 → ((((I mx_joint ((10 * v1) + (I mx_now (3 + v3).toNatClampNeg)).toNatClampNeg) + (I mx_now (51 + v3).toNatClampNeg)) < (I mx_joint ((10 * v1) + (I mx_now (27 + v3).toNatClampNeg)).toNatClampNeg) → (ab_E w (d + 1) mt_M_spreads 10 [.ref mx, .int v1, .int 1, .int (v3 + 1), .null, .null] [] ((ab_up I mx_joint ((10 * v1) + (I mx_now (27 + v3).toNatClampNeg)).toNatClampNeg ((I mx_joint ((10 * v1) + (I mx_now (3 + v3).toNatClampNeg)).toNatClampNeg) + (I mx_now (51 + v3).toNatClampNeg))), L, ab_RR, n, nc, ns) res)) ∧ (¬ ((I mx_joint ((10 * v1) + (I mx_now (3 + v3).toNatClampNeg)).toNatClampNeg) + (I mx_now (51 + v3).toNatClampNeg)) < (I mx_joint ((10 * v1) + (I mx_now (27 + v3).toNatClampNeg)).toNatClampNeg) → (ab_E w (d + 1) mt_M_spreads 10 [.ref mx, .int v1, .int 1, .int (v3 + 1), .null, .null] [] (I, L, ab_RR, n, nc, ns) res))))))))) ∧ (¬ (((I mx_now 1) >>> (v3 &&& 31)) &&& 1) = 1 → (ab_E w (d + 1) mt_M_spreads 10 [.ref mx, .int v1, .int v2, .int (v3 + 1), .null, .null] [] (I, L, ab_RR, n, nc, ns) res)))))) : ab_E w (d + 1) mt_M_spreads 10 [.ref mx, .int v1, .int v2, .int v3, .null, .null] [] (I, L, ab_RR, n, nc, ns) res := by
  refine ab_iload_n (i := 3) d_M_spreads_10 rfl rfl ?_
  refine ab_aload_n (i := 0) d_M_spreads_11 rfl rfl ?_
  refine ab_callV (me2 := mt_M_many) (b := mx) (as := []) (st := [.int v3]) (rv := (some (.int (I mx_now 0)))) (M2 := (I, L, ab_RR, n, nc, ns)) d_M_spreads_12 ce_M_many v_1635 v_1637 v_79 (by decide) rfl (Nat.le_of_ble_eq_true rfl) (cx_M_many_0  hT (show (vp_in 0 399) from by unfold vp_in; decide)) (Nat.le_refl _) (Nat.le_refl _) hc hs (fun j h9 => by cases h9) (fun _ _ => rfl) ?_
  show ab_E w (d + 1) mt_M_spreads 15 [.ref mx, .int v1, .int v2, .int v3, .null, .null] [.int (I mx_now 0), .int v3] (I, L, ab_RR, n, nc, ns) res
  refine ab_icmp_ge (tgt := 130) d_M_spreads_15 (by decide) (fun c2 => ?_) (fun c2 => ?_)
  · have h := h.1 c2
    refine ab_goto (tgt := 2) d_M_spreads_130 (by decide) ?_
    refine ab_drop 3 ?_
    exact h
  · have h := h.2 c2
    refine ab_aload_n (i := 0) d_M_spreads_18 rfl rfl ?_
    refine ab_iload_n (i := 3) d_M_spreads_19 rfl rfl ?_
    by_cases c4 : (((I mx_now 1) >>> (v3 &&& 31)) &&& 1) = 1
    · have h := h.1 c4
      refine ab_callV (me2 := mt_M_isSound) (b := mx) (as := [.int v3]) (st := []) (rv := (some (.int 1))) (M2 := (I, L, ab_RR, n, nc, ns)) d_M_spreads_20 ce_M_isSound v_1679 v_1681 v_89 (by decide) rfl (Nat.le_of_ble_eq_true rfl) (cx_M_isSound_1 v3 hT (show (vp_in 1 399) from by unfold vp_in; decide) c4) (Nat.le_refl _) (Nat.le_refl _) hc hs (fun j h9 => by cases h9) (fun _ _ => rfl) ?_
      show ab_E w (d + 1) mt_M_spreads 23 [.ref mx, .int v1, .int v2, .int v3, .null, .null] [.int 1] (I, L, ab_RR, n, nc, ns) res
      refine ab_if_ne (tgt := 29) d_M_spreads_23 (by decide) (fun _ => ?_) (fun c9 => absurd c9 (show ¬ (1 : Int32) = 0 from by decide))
      refine ab_bipush (v := 10) d_M_spreads_29 rfl ?_
      refine ab_iload_n (i := 1) d_M_spreads_31 rfl rfl ?_
      refine ab_imul d_M_spreads_32 ?_
      refine ab_aload_n (i := 0) d_M_spreads_33 rfl rfl ?_
      refine ab_getR (ci := 11) (k := 4) (j := mx_now) d_M_spreads_34 v_1372 rfl (by decide) (by decide) rfl r_mx_4 ?_
      refine ab_iconst (v := 3) d_M_spreads_37 rfl ?_
      refine ab_iload_n (i := 3) d_M_spreads_38 rfl rfl ?_
      refine ab_iadd d_M_spreads_39 ?_
      have g5 := h.1; have h := h.2
      refine ab_iald d_M_spreads_40 rfl rfl g5 ?_
      refine ab_iadd d_M_spreads_41 ?_
      refine ab_istore (i := 4) d_M_spreads_42 (by decide) (Or.inr rfl) ?_
      refine ab_bipush (v := 10) d_M_spreads_44 rfl ?_
      refine ab_iload_n (i := 1) d_M_spreads_46 rfl rfl ?_
      refine ab_imul d_M_spreads_47 ?_
      refine ab_aload_n (i := 0) d_M_spreads_48 rfl rfl ?_
      refine ab_getR (ci := 11) (k := 4) (j := mx_now) d_M_spreads_49 v_1372 rfl (by decide) (by decide) rfl r_mx_4 ?_
      refine ab_bipush (v := 27) d_M_spreads_52 rfl ?_
      refine ab_iload_n (i := 3) d_M_spreads_54 rfl rfl ?_
      refine ab_iadd d_M_spreads_55 ?_
      have g6 := h.1; have h := h.2
      refine ab_iald d_M_spreads_56 rfl rfl g6 ?_
      refine ab_iadd d_M_spreads_57 ?_
      refine ab_istore (i := 5) d_M_spreads_58 (by decide) (Or.inr rfl) ?_
      refine ab_aload_n (i := 0) d_M_spreads_60 rfl rfl ?_
      refine ab_iload (i := 4) d_M_spreads_61 rfl ?_
      refine ab_aload_n (i := 0) d_M_spreads_63 rfl rfl ?_
      refine ab_getR (ci := 11) (k := 40) (j := mx_joint) d_M_spreads_64 v_1408 rfl (by decide) (by decide) rfl r_mx_40 ?_
      refine ab_iload (i := 5) d_M_spreads_67 rfl ?_
      have g7 := h.1; have h := h.2
      refine ab_iald d_M_spreads_69 rfl rfl g7 ?_
      refine ab_aload_n (i := 0) d_M_spreads_70 rfl rfl ?_
      refine ab_iload_n (i := 3) d_M_spreads_71 rfl rfl ?_
      have g9 := h.1; have h := h.2
      refine ab_callV (me2 := mt_M_priceOf) (b := mx) (as := [.int v3]) (st := [.int (I mx_joint ((10 * v1) + (I mx_now (27 + v3).toNatClampNeg)).toNatClampNeg), .int ((10 * v1) + (I mx_now (3 + v3).toNatClampNeg)), .ref mx]) (rv := (some (.int (I mx_now (51 + v3).toNatClampNeg)))) (M2 := (I, L, ab_RR, n, nc, ns)) d_M_spreads_72 ce_M_priceOf v_1654 v_1656 v_83 (by decide) rfl (Nat.le_of_ble_eq_true rfl) (cx_M_priceOf_0 v3 hT g9) (Nat.le_refl _) (Nat.le_refl _) hc hs (fun j h9 => by cases h9) (fun _ _ => rfl) ?_
      show ab_E w (d + 1) mt_M_spreads 75 [.ref mx, .int v1, .int v2, .int v3, .int ((10 * v1) + (I mx_now (3 + v3).toNatClampNeg)), .int ((10 * v1) + (I mx_now (27 + v3).toNatClampNeg))] [.int (I mx_now (51 + v3).toNatClampNeg), .int (I mx_joint ((10 * v1) + (I mx_now (27 + v3).toNatClampNeg)).toNatClampNeg), .int ((10 * v1) + (I mx_now (3 + v3).toNatClampNeg)), .ref mx] (I, L, ab_RR, n, nc, ns) res
      refine ab_iadd d_M_spreads_75 ?_
      have g12 := h.1; have h := h.2
      by_cases c13 : ((I mx_joint ((10 * v1) + (I mx_now (27 + v3).toNatClampNeg)).toNatClampNeg) + (I mx_now (51 + v3).toNatClampNeg)) < (I mx_joint ((10 * v1) + (I mx_now (3 + v3).toNatClampNeg)).toNatClampNeg)
      · have h := h.1 c13
        refine ab_callV (me2 := mt_M_lessens) (b := mx) (as := [.int ((10 * v1) + (I mx_now (3 + v3).toNatClampNeg)), .int ((I mx_joint ((10 * v1) + (I mx_now (27 + v3).toNatClampNeg)).toNatClampNeg) + (I mx_now (51 + v3).toNatClampNeg))]) (st := []) (rv := (some (.int 1))) (M2 := ((ab_up I mx_joint ((10 * v1) + (I mx_now (3 + v3).toNatClampNeg)).toNatClampNeg ((I mx_joint ((10 * v1) + (I mx_now (27 + v3).toNatClampNeg)).toNatClampNeg) + (I mx_now (51 + v3).toNatClampNeg))), L, ab_RR, n, nc, ns)) d_M_spreads_76 ce_M_lessens v_1884 v_1886 v_126 (by decide) rfl (Nat.le_of_ble_eq_true rfl) (cx_M_lessens_0 ((10 * v1) + (I mx_now (3 + v3).toNatClampNeg)) ((I mx_joint ((10 * v1) + (I mx_now (27 + v3).toNatClampNeg)).toNatClampNeg) + (I mx_now (51 + v3).toNatClampNeg)) hT g12 c13 g12) (Nat.le_refl _) (Nat.le_refl _) hc hs (fun j h9 => by cases h9) (fun _ _ => rfl) ?_
        show ab_E w (d + 1) mt_M_spreads 79 [.ref mx, .int v1, .int v2, .int v3, .int ((10 * v1) + (I mx_now (3 + v3).toNatClampNeg)), .int ((10 * v1) + (I mx_now (27 + v3).toNatClampNeg))] [.int 1] ((ab_up I mx_joint ((10 * v1) + (I mx_now (3 + v3).toNatClampNeg)).toNatClampNeg ((I mx_joint ((10 * v1) + (I mx_now (27 + v3).toNatClampNeg)).toNatClampNeg) + (I mx_now (51 + v3).toNatClampNeg))), L, ab_RR, n, nc, ns) res
        refine ab_if_ne (tgt := 86) d_M_spreads_79 (by decide) (fun _ => ?_) (fun c9 => absurd c9 (show ¬ (1 : Int32) = 0 from by decide))
        refine ab_iconst (v := 1) d_M_spreads_86 rfl ?_
        refine ab_goto (tgt := 91) d_M_spreads_87 (by decide) ?_
        refine ab_istore_n (i := 2) d_M_spreads_91 rfl (by decide) (Or.inr rfl) ?_
        refine ab_aload_n (i := 0) d_M_spreads_92 rfl rfl ?_
        refine ab_iload (i := 5) d_M_spreads_93 rfl ?_
        refine ab_aload_n (i := 0) d_M_spreads_95 rfl rfl ?_
        refine ab_getR (ci := 11) (k := 40) (j := mx_joint) d_M_spreads_96 v_1408 rfl (by decide) (by decide) rfl r_mx_40 ?_
        refine ab_iload (i := 4) d_M_spreads_99 rfl ?_
        refine ab_iald d_M_spreads_101 rfl rfl g12 ?_
        refine ab_aload_n (i := 0) d_M_spreads_102 rfl rfl ?_
        refine ab_iload_n (i := 3) d_M_spreads_103 rfl rfl ?_
        refine ab_callV (me2 := mt_M_priceOf) (b := mx) (as := [.int v3]) (st := [.int ((ab_up I mx_joint ((10 * v1) + (I mx_now (3 + v3).toNatClampNeg)).toNatClampNeg ((I mx_joint ((10 * v1) + (I mx_now (27 + v3).toNatClampNeg)).toNatClampNeg) + (I mx_now (51 + v3).toNatClampNeg))) mx_joint ((10 * v1) + (I mx_now (3 + v3).toNatClampNeg)).toNatClampNeg), .int ((10 * v1) + (I mx_now (27 + v3).toNatClampNeg)), .ref mx]) (rv := (some (.int (I mx_now (51 + v3).toNatClampNeg)))) (M2 := ((ab_up I mx_joint ((10 * v1) + (I mx_now (3 + v3).toNatClampNeg)).toNatClampNeg ((I mx_joint ((10 * v1) + (I mx_now (27 + v3).toNatClampNeg)).toNatClampNeg) + (I mx_now (51 + v3).toNatClampNeg))), L, ab_RR, n, nc, ns)) d_M_spreads_104 ce_M_priceOf v_1654 v_1656 v_83 (by decide) rfl (Nat.le_of_ble_eq_true rfl) (cx_M_priceOf_0 v3 hT g9) (Nat.le_refl _) (Nat.le_refl _) hc hs (fun j h9 => by cases h9) (fun _ _ => rfl) ?_
        show ab_E w (d + 1) mt_M_spreads 107 [.ref mx, .int v1, .int 1, .int v3, .int ((10 * v1) + (I mx_now (3 + v3).toNatClampNeg)), .int ((10 * v1) + (I mx_now (27 + v3).toNatClampNeg))] [.int (I mx_now (51 + v3).toNatClampNeg), .int ((ab_up I mx_joint ((10 * v1) + (I mx_now (3 + v3).toNatClampNeg)).toNatClampNeg ((I mx_joint ((10 * v1) + (I mx_now (27 + v3).toNatClampNeg)).toNatClampNeg) + (I mx_now (51 + v3).toNatClampNeg))) mx_joint ((10 * v1) + (I mx_now (3 + v3).toNatClampNeg)).toNatClampNeg), .int ((10 * v1) + (I mx_now (27 + v3).toNatClampNeg)), .ref mx] ((ab_up I mx_joint ((10 * v1) + (I mx_now (3 + v3).toNatClampNeg)).toNatClampNeg ((I mx_joint ((10 * v1) + (I mx_now (27 + v3).toNatClampNeg)).toNatClampNeg) + (I mx_now (51 + v3).toNatClampNeg))), L, ab_RR, n, nc, ns) res
        refine ab_iadd d_M_spreads_107 ?_
        by_cases c17 : (((ab_up I mx_joint ((10 * v1) + (I mx_now (3 + v3).toNatClampNeg)).toNatClampNeg ((I mx_joint ((10 * v1) + (I mx_now (27 + v3).toNatClampNeg)).toNatClampNeg) + (I mx_now (51 + v3).toNatClampNeg))) mx_joint ((10 * v1) + (I mx_now (3 + v3).toNatClampNeg)).toNatClampNeg) + (I mx_now (51 + v3).toNatClampNeg)) < ((ab_up I mx_joint ((10 * v1) + (I mx_now (3 + v3).toNatClampNeg)).toNatClampNeg ((I mx_joint ((10 * v1) + (I mx_now (27 + v3).toNatClampNeg)).toNatClampNeg) + (I mx_now (51 + v3).toNatClampNeg))) mx_joint ((10 * v1) + (I mx_now (27 + v3).toNatClampNeg)).toNatClampNeg)
        · have h := h.1 c17
          refine ab_callV (me2 := mt_M_lessens) (b := mx) (as := [.int ((10 * v1) + (I mx_now (27 + v3).toNatClampNeg)), .int (((ab_up I mx_joint ((10 * v1) + (I mx_now (3 + v3).toNatClampNeg)).toNatClampNeg ((I mx_joint ((10 * v1) + (I mx_now (27 + v3).toNatClampNeg)).toNatClampNeg) + (I mx_now (51 + v3).toNatClampNeg))) mx_joint ((10 * v1) + (I mx_now (3 + v3).toNatClampNeg)).toNatClampNeg) + (I mx_now (51 + v3).toNatClampNeg))]) (st := []) (rv := (some (.int 1))) (M2 := ((ab_up (ab_up I mx_joint ((10 * v1) + (I mx_now (3 + v3).toNatClampNeg)).toNatClampNeg ((I mx_joint ((10 * v1) + (I mx_now (27 + v3).toNatClampNeg)).toNatClampNeg) + (I mx_now (51 + v3).toNatClampNeg))) mx_joint ((10 * v1) + (I mx_now (27 + v3).toNatClampNeg)).toNatClampNeg (((ab_up I mx_joint ((10 * v1) + (I mx_now (3 + v3).toNatClampNeg)).toNatClampNeg ((I mx_joint ((10 * v1) + (I mx_now (27 + v3).toNatClampNeg)).toNatClampNeg) + (I mx_now (51 + v3).toNatClampNeg))) mx_joint ((10 * v1) + (I mx_now (3 + v3).toNatClampNeg)).toNatClampNeg) + (I mx_now (51 + v3).toNatClampNeg))), L, ab_RR, n, nc, ns)) d_M_spreads_108 ce_M_lessens v_1884 v_1886 v_126 (by decide) rfl (Nat.le_of_ble_eq_true rfl) (cx_M_lessens_0 ((10 * v1) + (I mx_now (27 + v3).toNatClampNeg)) (((ab_up I mx_joint ((10 * v1) + (I mx_now (3 + v3).toNatClampNeg)).toNatClampNeg ((I mx_joint ((10 * v1) + (I mx_now (27 + v3).toNatClampNeg)).toNatClampNeg) + (I mx_now (51 + v3).toNatClampNeg))) mx_joint ((10 * v1) + (I mx_now (3 + v3).toNatClampNeg)).toNatClampNeg) + (I mx_now (51 + v3).toNatClampNeg)) hT g7 c17 g7) (Nat.le_refl _) (Nat.le_refl _) hc hs (fun j h9 => by cases h9) (fun _ _ => rfl) ?_
          show ab_E w (d + 1) mt_M_spreads 111 [.ref mx, .int v1, .int 1, .int v3, .int ((10 * v1) + (I mx_now (3 + v3).toNatClampNeg)), .int ((10 * v1) + (I mx_now (27 + v3).toNatClampNeg))] [.int 1] ((ab_up (ab_up I mx_joint ((10 * v1) + (I mx_now (3 + v3).toNatClampNeg)).toNatClampNeg ((I mx_joint ((10 * v1) + (I mx_now (27 + v3).toNatClampNeg)).toNatClampNeg) + (I mx_now (51 + v3).toNatClampNeg))) mx_joint ((10 * v1) + (I mx_now (27 + v3).toNatClampNeg)).toNatClampNeg (((ab_up I mx_joint ((10 * v1) + (I mx_now (3 + v3).toNatClampNeg)).toNatClampNeg ((I mx_joint ((10 * v1) + (I mx_now (27 + v3).toNatClampNeg)).toNatClampNeg) + (I mx_now (51 + v3).toNatClampNeg))) mx_joint ((10 * v1) + (I mx_now (3 + v3).toNatClampNeg)).toNatClampNeg) + (I mx_now (51 + v3).toNatClampNeg))), L, ab_RR, n, nc, ns) res
          refine ab_if_ne (tgt := 118) d_M_spreads_111 (by decide) (fun _ => ?_) (fun c9 => absurd c9 (show ¬ (1 : Int32) = 0 from by decide))
          refine ab_iconst (v := 1) d_M_spreads_118 rfl ?_
          refine ab_goto (tgt := 123) d_M_spreads_119 (by decide) ?_
          refine ab_istore_n (i := 2) d_M_spreads_123 rfl (by decide) (Or.inr rfl) ?_
          refine ab_iinc (i := 3) (v := (v3 + 1)) d_M_spreads_124 rfl rfl (by decide) (Or.inr rfl) ?_
          refine ab_goto (tgt := 10) d_M_spreads_127 (by decide) ?_
          refine ab_drop 4 ?_
          refine ab_drop 5 ?_
          exact h
        · have h := h.2 c17
          refine ab_callV (me2 := mt_M_lessens) (b := mx) (as := [.int ((10 * v1) + (I mx_now (27 + v3).toNatClampNeg)), .int (((ab_up I mx_joint ((10 * v1) + (I mx_now (3 + v3).toNatClampNeg)).toNatClampNeg ((I mx_joint ((10 * v1) + (I mx_now (27 + v3).toNatClampNeg)).toNatClampNeg) + (I mx_now (51 + v3).toNatClampNeg))) mx_joint ((10 * v1) + (I mx_now (3 + v3).toNatClampNeg)).toNatClampNeg) + (I mx_now (51 + v3).toNatClampNeg))]) (st := []) (rv := (some (.int 0))) (M2 := ((ab_up I mx_joint ((10 * v1) + (I mx_now (3 + v3).toNatClampNeg)).toNatClampNeg ((I mx_joint ((10 * v1) + (I mx_now (27 + v3).toNatClampNeg)).toNatClampNeg) + (I mx_now (51 + v3).toNatClampNeg))), L, ab_RR, n, nc, ns)) d_M_spreads_108 ce_M_lessens v_1884 v_1886 v_126 (by decide) rfl (Nat.le_of_ble_eq_true rfl) (cx_M_lessens_1 ((10 * v1) + (I mx_now (27 + v3).toNatClampNeg)) (((ab_up I mx_joint ((10 * v1) + (I mx_now (3 + v3).toNatClampNeg)).toNatClampNeg ((I mx_joint ((10 * v1) + (I mx_now (27 + v3).toNatClampNeg)).toNatClampNeg) + (I mx_now (51 + v3).toNatClampNeg))) mx_joint ((10 * v1) + (I mx_now (3 + v3).toNatClampNeg)).toNatClampNeg) + (I mx_now (51 + v3).toNatClampNeg)) hT g7 c17) (Nat.le_refl _) (Nat.le_refl _) hc hs (fun j h9 => by cases h9) (fun _ _ => rfl) ?_
          show ab_E w (d + 1) mt_M_spreads 111 [.ref mx, .int v1, .int 1, .int v3, .int ((10 * v1) + (I mx_now (3 + v3).toNatClampNeg)), .int ((10 * v1) + (I mx_now (27 + v3).toNatClampNeg))] [.int 0] ((ab_up I mx_joint ((10 * v1) + (I mx_now (3 + v3).toNatClampNeg)).toNatClampNeg ((I mx_joint ((10 * v1) + (I mx_now (27 + v3).toNatClampNeg)).toNatClampNeg) + (I mx_now (51 + v3).toNatClampNeg))), L, ab_RR, n, nc, ns) res
          refine ab_if_ne (tgt := 118) d_M_spreads_111 (by decide) (fun c9 => absurd (show (0 : Int32) = 0 from by decide) c9) (fun _ => ?_)
          refine ab_iload_n (i := 2) d_M_spreads_114 rfl rfl ?_
          refine ab_if_eq (tgt := 122) d_M_spreads_115 (by decide) (fun c9 => absurd c9 (show ¬ (1 : Int32) = 0 from by decide)) (fun _ => ?_)
          refine ab_iconst (v := 1) d_M_spreads_118 rfl ?_
          refine ab_goto (tgt := 123) d_M_spreads_119 (by decide) ?_
          refine ab_istore_n (i := 2) d_M_spreads_123 rfl (by decide) (Or.inr rfl) ?_
          refine ab_iinc (i := 3) (v := (v3 + 1)) d_M_spreads_124 rfl rfl (by decide) (Or.inr rfl) ?_
          refine ab_goto (tgt := 10) d_M_spreads_127 (by decide) ?_
          refine ab_drop 4 ?_
          refine ab_drop 5 ?_
          exact h
      · have h := h.2 c13
        refine ab_callV (me2 := mt_M_lessens) (b := mx) (as := [.int ((10 * v1) + (I mx_now (3 + v3).toNatClampNeg)), .int ((I mx_joint ((10 * v1) + (I mx_now (27 + v3).toNatClampNeg)).toNatClampNeg) + (I mx_now (51 + v3).toNatClampNeg))]) (st := []) (rv := (some (.int 0))) (M2 := (I, L, ab_RR, n, nc, ns)) d_M_spreads_76 ce_M_lessens v_1884 v_1886 v_126 (by decide) rfl (Nat.le_of_ble_eq_true rfl) (cx_M_lessens_1 ((10 * v1) + (I mx_now (3 + v3).toNatClampNeg)) ((I mx_joint ((10 * v1) + (I mx_now (27 + v3).toNatClampNeg)).toNatClampNeg) + (I mx_now (51 + v3).toNatClampNeg)) hT g12 c13) (Nat.le_refl _) (Nat.le_refl _) hc hs (fun j h9 => by cases h9) (fun _ _ => rfl) ?_
        show ab_E w (d + 1) mt_M_spreads 79 [.ref mx, .int v1, .int v2, .int v3, .int ((10 * v1) + (I mx_now (3 + v3).toNatClampNeg)), .int ((10 * v1) + (I mx_now (27 + v3).toNatClampNeg))] [.int 0] (I, L, ab_RR, n, nc, ns) res
        refine ab_if_ne (tgt := 86) d_M_spreads_79 (by decide) (fun c9 => absurd (show (0 : Int32) = 0 from by decide) c9) (fun _ => ?_)
        refine ab_iload_n (i := 2) d_M_spreads_82 rfl rfl ?_
        refine ab_if_eq (tgt := 90) d_M_spreads_83 (by decide) (fun c18 => ?_) (fun c18 => ?_)
        · have h := h.1 c18
          refine ab_iconst (v := 0) d_M_spreads_90 rfl ?_
          refine ab_istore_n (i := 2) d_M_spreads_91 rfl (by decide) (Or.inr rfl) ?_
          refine ab_aload_n (i := 0) d_M_spreads_92 rfl rfl ?_
          refine ab_iload (i := 5) d_M_spreads_93 rfl ?_
          refine ab_aload_n (i := 0) d_M_spreads_95 rfl rfl ?_
          refine ab_getR (ci := 11) (k := 40) (j := mx_joint) d_M_spreads_96 v_1408 rfl (by decide) (by decide) rfl r_mx_40 ?_
          refine ab_iload (i := 4) d_M_spreads_99 rfl ?_
          refine ab_iald d_M_spreads_101 rfl rfl g12 ?_
          refine ab_aload_n (i := 0) d_M_spreads_102 rfl rfl ?_
          refine ab_iload_n (i := 3) d_M_spreads_103 rfl rfl ?_
          refine ab_callV (me2 := mt_M_priceOf) (b := mx) (as := [.int v3]) (st := [.int (I mx_joint ((10 * v1) + (I mx_now (3 + v3).toNatClampNeg)).toNatClampNeg), .int ((10 * v1) + (I mx_now (27 + v3).toNatClampNeg)), .ref mx]) (rv := (some (.int (I mx_now (51 + v3).toNatClampNeg)))) (M2 := (I, L, ab_RR, n, nc, ns)) d_M_spreads_104 ce_M_priceOf v_1654 v_1656 v_83 (by decide) rfl (Nat.le_of_ble_eq_true rfl) (cx_M_priceOf_0 v3 hT g9) (Nat.le_refl _) (Nat.le_refl _) hc hs (fun j h9 => by cases h9) (fun _ _ => rfl) ?_
          show ab_E w (d + 1) mt_M_spreads 107 [.ref mx, .int v1, .int 0, .int v3, .int ((10 * v1) + (I mx_now (3 + v3).toNatClampNeg)), .int ((10 * v1) + (I mx_now (27 + v3).toNatClampNeg))] [.int (I mx_now (51 + v3).toNatClampNeg), .int (I mx_joint ((10 * v1) + (I mx_now (3 + v3).toNatClampNeg)).toNatClampNeg), .int ((10 * v1) + (I mx_now (27 + v3).toNatClampNeg)), .ref mx] (I, L, ab_RR, n, nc, ns) res
          refine ab_iadd d_M_spreads_107 ?_
          by_cases c22 : ((I mx_joint ((10 * v1) + (I mx_now (3 + v3).toNatClampNeg)).toNatClampNeg) + (I mx_now (51 + v3).toNatClampNeg)) < (I mx_joint ((10 * v1) + (I mx_now (27 + v3).toNatClampNeg)).toNatClampNeg)
          · have h := h.1 c22
            refine ab_callV (me2 := mt_M_lessens) (b := mx) (as := [.int ((10 * v1) + (I mx_now (27 + v3).toNatClampNeg)), .int ((I mx_joint ((10 * v1) + (I mx_now (3 + v3).toNatClampNeg)).toNatClampNeg) + (I mx_now (51 + v3).toNatClampNeg))]) (st := []) (rv := (some (.int 1))) (M2 := ((ab_up I mx_joint ((10 * v1) + (I mx_now (27 + v3).toNatClampNeg)).toNatClampNeg ((I mx_joint ((10 * v1) + (I mx_now (3 + v3).toNatClampNeg)).toNatClampNeg) + (I mx_now (51 + v3).toNatClampNeg))), L, ab_RR, n, nc, ns)) d_M_spreads_108 ce_M_lessens v_1884 v_1886 v_126 (by decide) rfl (Nat.le_of_ble_eq_true rfl) (cx_M_lessens_0 ((10 * v1) + (I mx_now (27 + v3).toNatClampNeg)) ((I mx_joint ((10 * v1) + (I mx_now (3 + v3).toNatClampNeg)).toNatClampNeg) + (I mx_now (51 + v3).toNatClampNeg)) hT g7 c22 g7) (Nat.le_refl _) (Nat.le_refl _) hc hs (fun j h9 => by cases h9) (fun _ _ => rfl) ?_
            show ab_E w (d + 1) mt_M_spreads 111 [.ref mx, .int v1, .int 0, .int v3, .int ((10 * v1) + (I mx_now (3 + v3).toNatClampNeg)), .int ((10 * v1) + (I mx_now (27 + v3).toNatClampNeg))] [.int 1] ((ab_up I mx_joint ((10 * v1) + (I mx_now (27 + v3).toNatClampNeg)).toNatClampNeg ((I mx_joint ((10 * v1) + (I mx_now (3 + v3).toNatClampNeg)).toNatClampNeg) + (I mx_now (51 + v3).toNatClampNeg))), L, ab_RR, n, nc, ns) res
            refine ab_if_ne (tgt := 118) d_M_spreads_111 (by decide) (fun _ => ?_) (fun c9 => absurd c9 (show ¬ (1 : Int32) = 0 from by decide))
            refine ab_iconst (v := 1) d_M_spreads_118 rfl ?_
            refine ab_goto (tgt := 123) d_M_spreads_119 (by decide) ?_
            refine ab_istore_n (i := 2) d_M_spreads_123 rfl (by decide) (Or.inr rfl) ?_
            refine ab_iinc (i := 3) (v := (v3 + 1)) d_M_spreads_124 rfl rfl (by decide) (Or.inr rfl) ?_
            refine ab_goto (tgt := 10) d_M_spreads_127 (by decide) ?_
            refine ab_drop 4 ?_
            refine ab_drop 5 ?_
            exact h
          · have h := h.2 c22
            refine ab_callV (me2 := mt_M_lessens) (b := mx) (as := [.int ((10 * v1) + (I mx_now (27 + v3).toNatClampNeg)), .int ((I mx_joint ((10 * v1) + (I mx_now (3 + v3).toNatClampNeg)).toNatClampNeg) + (I mx_now (51 + v3).toNatClampNeg))]) (st := []) (rv := (some (.int 0))) (M2 := (I, L, ab_RR, n, nc, ns)) d_M_spreads_108 ce_M_lessens v_1884 v_1886 v_126 (by decide) rfl (Nat.le_of_ble_eq_true rfl) (cx_M_lessens_1 ((10 * v1) + (I mx_now (27 + v3).toNatClampNeg)) ((I mx_joint ((10 * v1) + (I mx_now (3 + v3).toNatClampNeg)).toNatClampNeg) + (I mx_now (51 + v3).toNatClampNeg)) hT g7 c22) (Nat.le_refl _) (Nat.le_refl _) hc hs (fun j h9 => by cases h9) (fun _ _ => rfl) ?_
            show ab_E w (d + 1) mt_M_spreads 111 [.ref mx, .int v1, .int 0, .int v3, .int ((10 * v1) + (I mx_now (3 + v3).toNatClampNeg)), .int ((10 * v1) + (I mx_now (27 + v3).toNatClampNeg))] [.int 0] (I, L, ab_RR, n, nc, ns) res
            refine ab_if_ne (tgt := 118) d_M_spreads_111 (by decide) (fun c9 => absurd (show (0 : Int32) = 0 from by decide) c9) (fun _ => ?_)
            refine ab_iload_n (i := 2) d_M_spreads_114 rfl rfl ?_
            refine ab_if_eq (tgt := 122) d_M_spreads_115 (by decide) (fun _ => ?_) (fun c9 => absurd (show (0 : Int32) = 0 from by decide) c9)
            refine ab_iconst (v := 0) d_M_spreads_122 rfl ?_
            refine ab_istore_n (i := 2) d_M_spreads_123 rfl (by decide) (Or.inr rfl) ?_
            refine ab_iinc (i := 3) (v := (v3 + 1)) d_M_spreads_124 rfl rfl (by decide) (Or.inr rfl) ?_
            refine ab_goto (tgt := 10) d_M_spreads_127 (by decide) ?_
            refine ab_drop 4 ?_
            refine ab_drop 5 ?_
            exact h
        · have h := h.2 c18
          refine ab_iconst (v := 1) d_M_spreads_86 rfl ?_
          refine ab_goto (tgt := 91) d_M_spreads_87 (by decide) ?_
          refine ab_istore_n (i := 2) d_M_spreads_91 rfl (by decide) (Or.inr rfl) ?_
          refine ab_aload_n (i := 0) d_M_spreads_92 rfl rfl ?_
          refine ab_iload (i := 5) d_M_spreads_93 rfl ?_
          refine ab_aload_n (i := 0) d_M_spreads_95 rfl rfl ?_
          refine ab_getR (ci := 11) (k := 40) (j := mx_joint) d_M_spreads_96 v_1408 rfl (by decide) (by decide) rfl r_mx_40 ?_
          refine ab_iload (i := 4) d_M_spreads_99 rfl ?_
          refine ab_iald d_M_spreads_101 rfl rfl g12 ?_
          refine ab_aload_n (i := 0) d_M_spreads_102 rfl rfl ?_
          refine ab_iload_n (i := 3) d_M_spreads_103 rfl rfl ?_
          refine ab_callV (me2 := mt_M_priceOf) (b := mx) (as := [.int v3]) (st := [.int (I mx_joint ((10 * v1) + (I mx_now (3 + v3).toNatClampNeg)).toNatClampNeg), .int ((10 * v1) + (I mx_now (27 + v3).toNatClampNeg)), .ref mx]) (rv := (some (.int (I mx_now (51 + v3).toNatClampNeg)))) (M2 := (I, L, ab_RR, n, nc, ns)) d_M_spreads_104 ce_M_priceOf v_1654 v_1656 v_83 (by decide) rfl (Nat.le_of_ble_eq_true rfl) (cx_M_priceOf_0 v3 hT g9) (Nat.le_refl _) (Nat.le_refl _) hc hs (fun j h9 => by cases h9) (fun _ _ => rfl) ?_
          show ab_E w (d + 1) mt_M_spreads 107 [.ref mx, .int v1, .int 1, .int v3, .int ((10 * v1) + (I mx_now (3 + v3).toNatClampNeg)), .int ((10 * v1) + (I mx_now (27 + v3).toNatClampNeg))] [.int (I mx_now (51 + v3).toNatClampNeg), .int (I mx_joint ((10 * v1) + (I mx_now (3 + v3).toNatClampNeg)).toNatClampNeg), .int ((10 * v1) + (I mx_now (27 + v3).toNatClampNeg)), .ref mx] (I, L, ab_RR, n, nc, ns) res
          refine ab_iadd d_M_spreads_107 ?_
          by_cases c26 : ((I mx_joint ((10 * v1) + (I mx_now (3 + v3).toNatClampNeg)).toNatClampNeg) + (I mx_now (51 + v3).toNatClampNeg)) < (I mx_joint ((10 * v1) + (I mx_now (27 + v3).toNatClampNeg)).toNatClampNeg)
          · have h := h.1 c26
            refine ab_callV (me2 := mt_M_lessens) (b := mx) (as := [.int ((10 * v1) + (I mx_now (27 + v3).toNatClampNeg)), .int ((I mx_joint ((10 * v1) + (I mx_now (3 + v3).toNatClampNeg)).toNatClampNeg) + (I mx_now (51 + v3).toNatClampNeg))]) (st := []) (rv := (some (.int 1))) (M2 := ((ab_up I mx_joint ((10 * v1) + (I mx_now (27 + v3).toNatClampNeg)).toNatClampNeg ((I mx_joint ((10 * v1) + (I mx_now (3 + v3).toNatClampNeg)).toNatClampNeg) + (I mx_now (51 + v3).toNatClampNeg))), L, ab_RR, n, nc, ns)) d_M_spreads_108 ce_M_lessens v_1884 v_1886 v_126 (by decide) rfl (Nat.le_of_ble_eq_true rfl) (cx_M_lessens_0 ((10 * v1) + (I mx_now (27 + v3).toNatClampNeg)) ((I mx_joint ((10 * v1) + (I mx_now (3 + v3).toNatClampNeg)).toNatClampNeg) + (I mx_now (51 + v3).toNatClampNeg)) hT g7 c26 g7) (Nat.le_refl _) (Nat.le_refl _) hc hs (fun j h9 => by cases h9) (fun _ _ => rfl) ?_
            show ab_E w (d + 1) mt_M_spreads 111 [.ref mx, .int v1, .int 1, .int v3, .int ((10 * v1) + (I mx_now (3 + v3).toNatClampNeg)), .int ((10 * v1) + (I mx_now (27 + v3).toNatClampNeg))] [.int 1] ((ab_up I mx_joint ((10 * v1) + (I mx_now (27 + v3).toNatClampNeg)).toNatClampNeg ((I mx_joint ((10 * v1) + (I mx_now (3 + v3).toNatClampNeg)).toNatClampNeg) + (I mx_now (51 + v3).toNatClampNeg))), L, ab_RR, n, nc, ns) res
            refine ab_if_ne (tgt := 118) d_M_spreads_111 (by decide) (fun _ => ?_) (fun c9 => absurd c9 (show ¬ (1 : Int32) = 0 from by decide))
            refine ab_iconst (v := 1) d_M_spreads_118 rfl ?_
            refine ab_goto (tgt := 123) d_M_spreads_119 (by decide) ?_
            refine ab_istore_n (i := 2) d_M_spreads_123 rfl (by decide) (Or.inr rfl) ?_
            refine ab_iinc (i := 3) (v := (v3 + 1)) d_M_spreads_124 rfl rfl (by decide) (Or.inr rfl) ?_
            refine ab_goto (tgt := 10) d_M_spreads_127 (by decide) ?_
            refine ab_drop 4 ?_
            refine ab_drop 5 ?_
            exact h
          · have h := h.2 c26
            refine ab_callV (me2 := mt_M_lessens) (b := mx) (as := [.int ((10 * v1) + (I mx_now (27 + v3).toNatClampNeg)), .int ((I mx_joint ((10 * v1) + (I mx_now (3 + v3).toNatClampNeg)).toNatClampNeg) + (I mx_now (51 + v3).toNatClampNeg))]) (st := []) (rv := (some (.int 0))) (M2 := (I, L, ab_RR, n, nc, ns)) d_M_spreads_108 ce_M_lessens v_1884 v_1886 v_126 (by decide) rfl (Nat.le_of_ble_eq_true rfl) (cx_M_lessens_1 ((10 * v1) + (I mx_now (27 + v3).toNatClampNeg)) ((I mx_joint ((10 * v1) + (I mx_now (3 + v3).toNatClampNeg)).toNatClampNeg) + (I mx_now (51 + v3).toNatClampNeg)) hT g7 c26) (Nat.le_refl _) (Nat.le_refl _) hc hs (fun j h9 => by cases h9) (fun _ _ => rfl) ?_
            show ab_E w (d + 1) mt_M_spreads 111 [.ref mx, .int v1, .int 1, .int v3, .int ((10 * v1) + (I mx_now (3 + v3).toNatClampNeg)), .int ((10 * v1) + (I mx_now (27 + v3).toNatClampNeg))] [.int 0] (I, L, ab_RR, n, nc, ns) res
            refine ab_if_ne (tgt := 118) d_M_spreads_111 (by decide) (fun c9 => absurd (show (0 : Int32) = 0 from by decide) c9) (fun _ => ?_)
            refine ab_iload_n (i := 2) d_M_spreads_114 rfl rfl ?_
            refine ab_if_eq (tgt := 122) d_M_spreads_115 (by decide) (fun c9 => absurd c9 (show ¬ (1 : Int32) = 0 from by decide)) (fun _ => ?_)
            refine ab_iconst (v := 1) d_M_spreads_118 rfl ?_
            refine ab_goto (tgt := 123) d_M_spreads_119 (by decide) ?_
            refine ab_istore_n (i := 2) d_M_spreads_123 rfl (by decide) (Or.inr rfl) ?_
            refine ab_iinc (i := 3) (v := (v3 + 1)) d_M_spreads_124 rfl rfl (by decide) (Or.inr rfl) ?_
            refine ab_goto (tgt := 10) d_M_spreads_127 (by decide) ?_
            refine ab_drop 4 ?_
            refine ab_drop 5 ?_
            exact h
    · have h := h.2 c4
      refine ab_callV (me2 := mt_M_isSound) (b := mx) (as := [.int v3]) (st := []) (rv := (some (.int 0))) (M2 := (I, L, ab_RR, n, nc, ns)) d_M_spreads_20 ce_M_isSound v_1679 v_1681 v_89 (by decide) rfl (Nat.le_of_ble_eq_true rfl) (cx_M_isSound_0 v3 hT (show (vp_in 1 399) from by unfold vp_in; decide) c4) (Nat.le_refl _) (Nat.le_refl _) hc hs (fun j h9 => by cases h9) (fun _ _ => rfl) ?_
      show ab_E w (d + 1) mt_M_spreads 23 [.ref mx, .int v1, .int v2, .int v3, .null, .null] [.int 0] (I, L, ab_RR, n, nc, ns) res
      refine ab_if_ne (tgt := 29) d_M_spreads_23 (by decide) (fun c9 => absurd (show (0 : Int32) = 0 from by decide) c9) (fun _ => ?_)
      refine ab_goto (tgt := 124) d_M_spreads_26 (by decide) ?_
      refine ab_iinc (i := 3) (v := (v3 + 1)) d_M_spreads_124 rfl rfl (by decide) (Or.inr rfl) ?_
      refine ab_goto (tgt := 10) d_M_spreads_127 (by decide) ?_
      exact h
theorem r_M_tellJoints_0 {w : ab_Wd} {d n nc ns : Nat} {I : Nat → Nat → Int32} {L : Nat → Nat → Int64} {res : ab_Re} (hT : w.1.stackTraces = false) (v1 : Int32) (hc : nc ≤ res.2.2.2.2.2.1) (hs : ns ≤ res.2.2.2.2.2.2)
    (h : ab_E w (d + 1) mt_M_tellJoints 2 [.ref mx, .int v1, .int 1, .null, .null, .null, .null] [] (I, L, ab_RR, n, nc, ns) res) : ab_E w (d + 1) mt_M_tellJoints 0 [.ref mx, .int v1, .null, .null, .null, .null, .null] [] (I, L, ab_RR, n, nc, ns) res := by
  refine ab_iconst (v := 1) d_M_tellJoints_0 rfl ?_
  refine ab_istore_n (i := 2) d_M_tellJoints_1 rfl (by decide) (Or.inr rfl) ?_
  exact h
theorem r_M_tellJoints_2 {w : ab_Wd} {d n nc ns : Nat} {I : Nat → Nat → Int32} {L : Nat → Nat → Int64} {res : ab_Re} (hT : w.1.stackTraces = false) (v1 : Int32) (v2 : Int32) (hc : nc ≤ res.2.2.2.2.2.1) (hs : ns ≤ res.2.2.2.2.2.2)
    (h : ((v1 < v2 → (res = (.inl none, (I, L, ab_RR, n, nc, ns)))) ∧ (¬ v1 < v2 → (((v2 &&& (v1 ^^^ (-1))) = 0 → (∃ (r3 : Int32), ab_C w d mt_Integer_bitCount [.int v2] (I, L, ab_RR, n, nc, ns) (.inl (some (.int r3)), (I, L, ab_RR, n, nc, ns)) ∧ ((¬ r3 = 1 → (ab_E w (d + 1) mt_M_tellJoints 35 [.ref mx, .int v1, .int v2, .int 0, .int 0, .null, .null] [] (I, L, ab_RR, n, nc, ns) res)) ∧ (r3 = 1 → (ab_E w (d + 1) mt_M_tellJoints 35 [.ref mx, .int v1, .int v2, .int 1, .int 0, .null, .null] [] (I, L, ab_RR, n, nc, ns) res))))) ∧ (¬ (v2 &&& (v1 ^^^ (-1))) = 0 → (ab_E w (d + 1) mt_M_tellJoints 2 [.ref mx, .int v1, .int (v2 + 1), .null, .null, .null, .null] [] (I, L, ab_RR, n, nc, ns) res)))))) : ab_E w (d + 1) mt_M_tellJoints 2 [.ref mx, .int v1, .int v2, .null, .null, .null, .null] [] (I, L, ab_RR, n, nc, ns) res := by
  refine ab_iload_n (i := 2) d_M_tellJoints_2 rfl rfl ?_
  refine ab_iload_n (i := 1) d_M_tellJoints_3 rfl rfl ?_
  refine ab_icmp_gt (tgt := 176) d_M_tellJoints_4 (by decide) (fun c1 => ?_) (fun c1 => ?_)
  · have h := h.1 c1
    exact ab_vret d_M_tellJoints_176 rfl h
  · have h := h.2 c1
    refine ab_iload_n (i := 2) d_M_tellJoints_7 rfl rfl ?_
    refine ab_iload_n (i := 1) d_M_tellJoints_8 rfl rfl ?_
    refine ab_iconst (v := (-1)) d_M_tellJoints_9 rfl ?_
    refine ab_ixor d_M_tellJoints_10 ?_
    refine ab_iand d_M_tellJoints_11 ?_
    refine ab_if_eq (tgt := 18) d_M_tellJoints_12 (by decide) (fun c2 => ?_) (fun c2 => ?_)
    · have h := h.1 c2
      refine ab_iload_n (i := 2) d_M_tellJoints_18 rfl rfl ?_
      obtain ⟨r3, hC, h⟩ := h
      refine ab_callS (me2 := mt_Integer_bitCount) (as := [.int v2]) (st := []) (rv := (some (.int r3))) (M2 := (I, L, ab_RR, n, nc, ns)) d_M_tellJoints_19 ce_Integer_bitCount ⟨v_965, Or.inl v_1879⟩ (Nat.le_of_ble_eq_true rfl) hC (Nat.le_refl _) (Nat.le_refl _) hc hs (fun j h9 => by cases h9) (fun _ _ => rfl) ?_
      show ab_E w (d + 1) mt_M_tellJoints 22 [.ref mx, .int v1, .int v2, .null, .null, .null, .null] [.int r3] (I, L, ab_RR, n, nc, ns) res
      refine ab_iconst (v := 1) d_M_tellJoints_22 rfl ?_
      refine ab_icmp_ne (tgt := 30) d_M_tellJoints_23 (by decide) (fun c4 => ?_) (fun c4 => ?_)
      · have h := h.1 c4
        refine ab_iconst (v := 0) d_M_tellJoints_30 rfl ?_
        refine ab_istore_n (i := 3) d_M_tellJoints_31 rfl (by decide) (Or.inr rfl) ?_
        refine ab_iconst (v := 0) d_M_tellJoints_32 rfl ?_
        refine ab_istore (i := 4) d_M_tellJoints_33 (by decide) (Or.inr rfl) ?_
        exact h
      · have h := h.2 c4
        refine ab_iconst (v := 1) d_M_tellJoints_26 rfl ?_
        refine ab_goto (tgt := 31) d_M_tellJoints_27 (by decide) ?_
        refine ab_istore_n (i := 3) d_M_tellJoints_31 rfl (by decide) (Or.inr rfl) ?_
        refine ab_iconst (v := 0) d_M_tellJoints_32 rfl ?_
        refine ab_istore (i := 4) d_M_tellJoints_33 (by decide) (Or.inr rfl) ?_
        exact h
    · have h := h.2 c2
      refine ab_goto (tgt := 170) d_M_tellJoints_15 (by decide) ?_
      refine ab_iinc (i := 2) (v := (v2 + 1)) d_M_tellJoints_170 rfl rfl (by decide) (Or.inr rfl) ?_
      refine ab_goto (tgt := 2) d_M_tellJoints_173 (by decide) ?_
      exact h
theorem r_M_tellJoints_35 {w : ab_Wd} {d n nc ns : Nat} {I : Nat → Nat → Int32} {L : Nat → Nat → Int64} {res : ab_Re} (hT : w.1.stackTraces = false) (v1 : Int32) (v2 : Int32) (v3 : Int32) (v4 : Int32) (hc : nc ≤ res.2.2.2.2.2.1) (hs : ns ≤ res.2.2.2.2.2.2)
    (h : (((I mx 2) ≤ v4 → (ab_E w (d + 1) mt_M_tellJoints 89 [.ref mx, .int v1, .int v2, .int v3, .int ((v2 - 1) &&& v2), .null, .null] [] (I, L, ab_RR, n, nc, ns) res)) ∧ (¬ (I mx 2) ≤ v4 → ((v3 = 0 → ((vp_in ((10 * v2) + v4) 10240) ∧ ab_E w (d + 1) mt_M_tellJoints 35 [.ref mx, .int v1, .int v2, .int v3, .int (v4 + 1), .null, .null] [] ((ab_up I mx_joint ((10 * v2) + v4).toNatClampNeg 1000000), L, ab_RR, n, nc, ns) res)) ∧ (¬ v3 = 0 → ((((v2 >>> (v4 &&& 31)) &&& 1) = 1 → ((vp_in ((10 * v2) + v4) 10240) ∧ ab_E w (d + 1) mt_M_tellJoints 35 [.ref mx, .int v1, .int v2, .int v3, .int (v4 + 1), .null, .null] [] ((ab_up I mx_joint ((10 * v2) + v4).toNatClampNeg 0), L, ab_RR, n, nc, ns) res)) ∧ (¬ ((v2 >>> (v4 &&& 31)) &&& 1) = 1 → ((vp_in ((10 * v2) + v4) 10240) ∧ ab_E w (d + 1) mt_M_tellJoints 35 [.ref mx, .int v1, .int v2, .int v3, .int (v4 + 1), .null, .null] [] ((ab_up I mx_joint ((10 * v2) + v4).toNatClampNeg 1000000), L, ab_RR, n, nc, ns) res)))))))) : ab_E w (d + 1) mt_M_tellJoints 35 [.ref mx, .int v1, .int v2, .int v3, .int v4, .null, .null] [] (I, L, ab_RR, n, nc, ns) res := by
  refine ab_iload (i := 4) d_M_tellJoints_35 rfl ?_
  refine ab_aload_n (i := 0) d_M_tellJoints_37 rfl rfl ?_
  refine ab_getI (ci := 11) (k := 2) d_M_tellJoints_38 v_1370 rfl (by decide) (by decide) rfl ?_
  refine ab_icmp_ge (tgt := 82) d_M_tellJoints_41 (by decide) (fun c1 => ?_) (fun c1 => ?_)
  · have h := h.1 c1
    refine ab_iload_n (i := 2) d_M_tellJoints_82 rfl rfl ?_
    refine ab_iconst (v := 1) d_M_tellJoints_83 rfl ?_
    refine ab_isub d_M_tellJoints_84 ?_
    refine ab_iload_n (i := 2) d_M_tellJoints_85 rfl rfl ?_
    refine ab_iand d_M_tellJoints_86 ?_
    refine ab_istore (i := 4) d_M_tellJoints_87 (by decide) (Or.inr rfl) ?_
    exact h
  · have h := h.2 c1
    refine ab_aload_n (i := 0) d_M_tellJoints_44 rfl rfl ?_
    refine ab_getR (ci := 11) (k := 40) (j := mx_joint) d_M_tellJoints_45 v_1408 rfl (by decide) (by decide) rfl r_mx_40 ?_
    refine ab_bipush (v := 10) d_M_tellJoints_48 rfl ?_
    refine ab_iload_n (i := 2) d_M_tellJoints_50 rfl rfl ?_
    refine ab_imul d_M_tellJoints_51 ?_
    refine ab_iload (i := 4) d_M_tellJoints_52 rfl ?_
    refine ab_iadd d_M_tellJoints_54 ?_
    refine ab_iload_n (i := 3) d_M_tellJoints_55 rfl rfl ?_
    refine ab_if_eq (tgt := 72) d_M_tellJoints_56 (by decide) (fun c2 => ?_) (fun c2 => ?_)
    · have h := h.1 c2
      refine ab_ldcw (v := 1000000) d_M_tellJoints_72 v_1743 ?_
      have g3 := h.1; have h := h.2
      refine ab_iast d_M_tellJoints_75 rfl rfl g3 ?_
      refine ab_iinc (i := 4) (v := (v4 + 1)) d_M_tellJoints_76 rfl rfl (by decide) (Or.inr rfl) ?_
      refine ab_goto (tgt := 35) d_M_tellJoints_79 (by decide) ?_
      exact h
    · have h := h.2 c2
      refine ab_iload_n (i := 2) d_M_tellJoints_59 rfl rfl ?_
      refine ab_iload (i := 4) d_M_tellJoints_60 rfl ?_
      by_cases c5 : ((v2 >>> (v4 &&& 31)) &&& 1) = 1
      · have h := h.1 c5
        refine ab_callS (me2 := mt_M_has) (as := [.int v2, .int v4]) (st := [.int ((10 * v2) + v4), .ref mx_joint]) (rv := (some (.int 1))) (M2 := (I, L, ab_RR, n, nc, ns)) d_M_tellJoints_62 ce_M_has ⟨v_1648, Or.inl v_1647⟩ (Nat.le_of_ble_eq_true rfl) (cx_M_has_1 v2 v4 hT c5) (Nat.le_refl _) (Nat.le_refl _) hc hs (fun j h9 => by cases h9) (fun _ _ => rfl) ?_
        show ab_E w (d + 1) mt_M_tellJoints 65 [.ref mx, .int v1, .int v2, .int v3, .int v4, .null, .null] [.int 1, .int ((10 * v2) + v4), .ref mx_joint] (I, L, ab_RR, n, nc, ns) res
        refine ab_if_eq (tgt := 72) d_M_tellJoints_65 (by decide) (fun c9 => absurd c9 (show ¬ (1 : Int32) = 0 from by decide)) (fun _ => ?_)
        refine ab_iconst (v := 0) d_M_tellJoints_68 rfl ?_
        refine ab_goto (tgt := 75) d_M_tellJoints_69 (by decide) ?_
        have g6 := h.1; have h := h.2
        refine ab_iast d_M_tellJoints_75 rfl rfl g6 ?_
        refine ab_iinc (i := 4) (v := (v4 + 1)) d_M_tellJoints_76 rfl rfl (by decide) (Or.inr rfl) ?_
        refine ab_goto (tgt := 35) d_M_tellJoints_79 (by decide) ?_
        exact h
      · have h := h.2 c5
        refine ab_callS (me2 := mt_M_has) (as := [.int v2, .int v4]) (st := [.int ((10 * v2) + v4), .ref mx_joint]) (rv := (some (.int 0))) (M2 := (I, L, ab_RR, n, nc, ns)) d_M_tellJoints_62 ce_M_has ⟨v_1648, Or.inl v_1647⟩ (Nat.le_of_ble_eq_true rfl) (cx_M_has_0 v2 v4 hT c5) (Nat.le_refl _) (Nat.le_refl _) hc hs (fun j h9 => by cases h9) (fun _ _ => rfl) ?_
        show ab_E w (d + 1) mt_M_tellJoints 65 [.ref mx, .int v1, .int v2, .int v3, .int v4, .null, .null] [.int 0, .int ((10 * v2) + v4), .ref mx_joint] (I, L, ab_RR, n, nc, ns) res
        refine ab_if_eq (tgt := 72) d_M_tellJoints_65 (by decide) (fun _ => ?_) (fun c9 => absurd (show (0 : Int32) = 0 from by decide) c9)
        refine ab_ldcw (v := 1000000) d_M_tellJoints_72 v_1743 ?_
        have g7 := h.1; have h := h.2
        refine ab_iast d_M_tellJoints_75 rfl rfl g7 ?_
        refine ab_iinc (i := 4) (v := (v4 + 1)) d_M_tellJoints_76 rfl rfl (by decide) (Or.inr rfl) ?_
        refine ab_goto (tgt := 35) d_M_tellJoints_79 (by decide) ?_
        exact h
theorem r_M_tellJoints_89 {w : ab_Wd} {d n nc ns : Nat} {I : Nat → Nat → Int32} {L : Nat → Nat → Int64} {res : ab_Re} (hT : w.1.stackTraces = false) (v1 : Int32) (v2 : Int32) (v3 : Int32) (v4 : Int32) (hc : nc ≤ res.2.2.2.2.2.1) (hs : ns ≤ res.2.2.2.2.2.2)
    (h : ((v4 ≤ 0 → (∃ (I3 : Nat → Nat → Int32), ab_C w d mt_M_spreads [.ref mx, .int v2] (I, L, ab_RR, n, nc, ns) (.inl none, (I3, L, ab_RR, n, nc, ns)) ∧ ab_E w (d + 1) mt_M_tellJoints 2 [.ref mx, .int v1, .int (v2 + 1), .null, .null, .null, .null] [] (I3, L, ab_RR, n, nc, ns) res)) ∧ (¬ v4 ≤ 0 → (ab_E w (d + 1) mt_M_tellJoints 97 [.ref mx, .int v1, .int v2, .int v3, .int v4, .int 0, .null] [] (I, L, ab_RR, n, nc, ns) res)))) : ab_E w (d + 1) mt_M_tellJoints 89 [.ref mx, .int v1, .int v2, .int v3, .int v4, .null, .null] [] (I, L, ab_RR, n, nc, ns) res := by
  refine ab_iload (i := 4) d_M_tellJoints_89 rfl ?_
  refine ab_if_le (tgt := 165) d_M_tellJoints_91 (by decide) (fun c1 => ?_) (fun c1 => ?_)
  · have h := h.1 c1
    refine ab_aload_n (i := 0) d_M_tellJoints_165 rfl rfl ?_
    refine ab_iload_n (i := 2) d_M_tellJoints_166 rfl rfl ?_
    obtain ⟨I3, hC, h⟩ := h
    refine ab_callV (me2 := mt_M_spreads) (b := mx) (as := [.int v2]) (st := []) (rv := none) (M2 := (I3, L, ab_RR, n, nc, ns)) d_M_tellJoints_167 ce_M_spreads v_1888 v_1890 v_127 (by decide) rfl (Nat.le_of_ble_eq_true rfl) hC (Nat.le_refl _) (Nat.le_refl _) hc hs (fun j h9 => by cases h9) (fun _ _ => rfl) ?_
    show ab_E w (d + 1) mt_M_tellJoints 170 [.ref mx, .int v1, .int v2, .int v3, .int v4, .null, .null] [] (I3, L, ab_RR, n, nc, ns) res
    refine ab_iinc (i := 2) (v := (v2 + 1)) d_M_tellJoints_170 rfl rfl (by decide) (Or.inr rfl) ?_
    refine ab_goto (tgt := 2) d_M_tellJoints_173 (by decide) ?_
    refine ab_drop 3 ?_
    refine ab_drop 4 ?_
    exact h
  · have h := h.2 c1
    refine ab_iconst (v := 0) d_M_tellJoints_94 rfl ?_
    refine ab_istore (i := 5) d_M_tellJoints_95 (by decide) (Or.inr rfl) ?_
    exact h
theorem r_M_tellJoints_97 {w : ab_Wd} {d n nc ns : Nat} {I : Nat → Nat → Int32} {L : Nat → Nat → Int64} {res : ab_Re} (hT : w.1.stackTraces = false) (v1 : Int32) (v2 : Int32) (v3 : Int32) (v4 : Int32) (v5 : Int32) (hc : nc ≤ res.2.2.2.2.2.1) (hs : ns ≤ res.2.2.2.2.2.2)
    (h : (((I mx 2) ≤ v5 → (ab_E w (d + 1) mt_M_tellJoints 89 [.ref mx, .int v1, .int v2, .int v3, .int ((v4 - 1) &&& v2), .null, .null] [] (I, L, ab_RR, n, nc, ns) res)) ∧ (¬ (I mx 2) ≤ v5 → ((vp_in ((10 * v4) + v5) 10240) ∧ (vp_in ((10 * (v2 ^^^ v4)) + v5) 10240) ∧ (vp_in ((10 * v2) + v5) 10240) ∧ ((((I mx_joint ((10 * v4) + v5).toNatClampNeg) + (I mx_joint ((10 * (v2 ^^^ v4)) + v5).toNatClampNeg)) < (I mx_joint ((10 * v2) + v5).toNatClampNeg) → (ab_E w (d + 1) mt_M_tellJoints 97 [.ref mx, .int v1, .int v2, .int v3, .int v4, .int (v5 + 1), .null] [] ((ab_up I mx_joint ((10 * v2) + v5).toNatClampNeg ((I mx_joint ((10 * v4) + v5).toNatClampNeg) + (I mx_joint ((10 * (v2 ^^^ v4)) + v5).toNatClampNeg))), L, ab_RR, n, nc, ns) res)) ∧ (¬ ((I mx_joint ((10 * v4) + v5).toNatClampNeg) + (I mx_joint ((10 * (v2 ^^^ v4)) + v5).toNatClampNeg)) < (I mx_joint ((10 * v2) + v5).toNatClampNeg) → (ab_E w (d + 1) mt_M_tellJoints 97 [.ref mx, .int v1, .int v2, .int v3, .int v4, .int (v5 + 1), .null] [] (I, L, ab_RR, n, nc, ns) res))))))) : ab_E w (d + 1) mt_M_tellJoints 97 [.ref mx, .int v1, .int v2, .int v3, .int v4, .int v5, .null] [] (I, L, ab_RR, n, nc, ns) res := by
  refine ab_iload (i := 5) d_M_tellJoints_97 rfl ?_
  refine ab_aload_n (i := 0) d_M_tellJoints_99 rfl rfl ?_
  refine ab_getI (ci := 11) (k := 2) d_M_tellJoints_100 v_1370 rfl (by decide) (by decide) rfl ?_
  refine ab_icmp_ge (tgt := 154) d_M_tellJoints_103 (by decide) (fun c1 => ?_) (fun c1 => ?_)
  · have h := h.1 c1
    refine ab_iload (i := 4) d_M_tellJoints_154 rfl ?_
    refine ab_iconst (v := 1) d_M_tellJoints_156 rfl ?_
    refine ab_isub d_M_tellJoints_157 ?_
    refine ab_iload_n (i := 2) d_M_tellJoints_158 rfl rfl ?_
    refine ab_iand d_M_tellJoints_159 ?_
    refine ab_istore (i := 4) d_M_tellJoints_160 (by decide) (Or.inr rfl) ?_
    refine ab_goto (tgt := 89) d_M_tellJoints_162 (by decide) ?_
    refine ab_drop 5 ?_
    exact h
  · have h := h.2 c1
    refine ab_aload_n (i := 0) d_M_tellJoints_106 rfl rfl ?_
    refine ab_bipush (v := 10) d_M_tellJoints_107 rfl ?_
    refine ab_iload_n (i := 2) d_M_tellJoints_109 rfl rfl ?_
    refine ab_imul d_M_tellJoints_110 ?_
    refine ab_iload (i := 5) d_M_tellJoints_111 rfl ?_
    refine ab_iadd d_M_tellJoints_113 ?_
    refine ab_aload_n (i := 0) d_M_tellJoints_114 rfl rfl ?_
    refine ab_getR (ci := 11) (k := 40) (j := mx_joint) d_M_tellJoints_115 v_1408 rfl (by decide) (by decide) rfl r_mx_40 ?_
    refine ab_bipush (v := 10) d_M_tellJoints_118 rfl ?_
    refine ab_iload (i := 4) d_M_tellJoints_120 rfl ?_
    refine ab_imul d_M_tellJoints_122 ?_
    refine ab_iload (i := 5) d_M_tellJoints_123 rfl ?_
    refine ab_iadd d_M_tellJoints_125 ?_
    have g2 := h.1; have h := h.2
    refine ab_iald d_M_tellJoints_126 rfl rfl g2 ?_
    refine ab_aload_n (i := 0) d_M_tellJoints_127 rfl rfl ?_
    refine ab_getR (ci := 11) (k := 40) (j := mx_joint) d_M_tellJoints_128 v_1408 rfl (by decide) (by decide) rfl r_mx_40 ?_
    refine ab_bipush (v := 10) d_M_tellJoints_131 rfl ?_
    refine ab_iload_n (i := 2) d_M_tellJoints_133 rfl rfl ?_
    refine ab_iload (i := 4) d_M_tellJoints_134 rfl ?_
    refine ab_ixor d_M_tellJoints_136 ?_
    refine ab_imul d_M_tellJoints_137 ?_
    refine ab_iload (i := 5) d_M_tellJoints_138 rfl ?_
    refine ab_iadd d_M_tellJoints_140 ?_
    have g3 := h.1; have h := h.2
    refine ab_iald d_M_tellJoints_141 rfl rfl g3 ?_
    refine ab_iadd d_M_tellJoints_142 ?_
    have g6 := h.1; have h := h.2
    by_cases c7 : ((I mx_joint ((10 * v4) + v5).toNatClampNeg) + (I mx_joint ((10 * (v2 ^^^ v4)) + v5).toNatClampNeg)) < (I mx_joint ((10 * v2) + v5).toNatClampNeg)
    · have h := h.1 c7
      refine ab_callV (me2 := mt_M_lessens) (b := mx) (as := [.int ((10 * v2) + v5), .int ((I mx_joint ((10 * v4) + v5).toNatClampNeg) + (I mx_joint ((10 * (v2 ^^^ v4)) + v5).toNatClampNeg))]) (st := []) (rv := (some (.int 1))) (M2 := ((ab_up I mx_joint ((10 * v2) + v5).toNatClampNeg ((I mx_joint ((10 * v4) + v5).toNatClampNeg) + (I mx_joint ((10 * (v2 ^^^ v4)) + v5).toNatClampNeg))), L, ab_RR, n, nc, ns)) d_M_tellJoints_143 ce_M_lessens v_1884 v_1886 v_126 (by decide) rfl (Nat.le_of_ble_eq_true rfl) (cx_M_lessens_0 ((10 * v2) + v5) ((I mx_joint ((10 * v4) + v5).toNatClampNeg) + (I mx_joint ((10 * (v2 ^^^ v4)) + v5).toNatClampNeg)) hT g6 c7 g6) (Nat.le_refl _) (Nat.le_refl _) hc hs (fun j h9 => by cases h9) (fun _ _ => rfl) ?_
      show ab_E w (d + 1) mt_M_tellJoints 146 [.ref mx, .int v1, .int v2, .int v3, .int v4, .int v5, .null] [.int 1] ((ab_up I mx_joint ((10 * v2) + v5).toNatClampNeg ((I mx_joint ((10 * v4) + v5).toNatClampNeg) + (I mx_joint ((10 * (v2 ^^^ v4)) + v5).toNatClampNeg))), L, ab_RR, n, nc, ns) res
      refine ab_istore (i := 6) d_M_tellJoints_146 (by decide) (Or.inr rfl) ?_
      refine ab_iinc (i := 5) (v := (v5 + 1)) d_M_tellJoints_148 rfl rfl (by decide) (Or.inr rfl) ?_
      refine ab_goto (tgt := 97) d_M_tellJoints_151 (by decide) ?_
      refine ab_drop 6 ?_
      exact h
    · have h := h.2 c7
      refine ab_callV (me2 := mt_M_lessens) (b := mx) (as := [.int ((10 * v2) + v5), .int ((I mx_joint ((10 * v4) + v5).toNatClampNeg) + (I mx_joint ((10 * (v2 ^^^ v4)) + v5).toNatClampNeg))]) (st := []) (rv := (some (.int 0))) (M2 := (I, L, ab_RR, n, nc, ns)) d_M_tellJoints_143 ce_M_lessens v_1884 v_1886 v_126 (by decide) rfl (Nat.le_of_ble_eq_true rfl) (cx_M_lessens_1 ((10 * v2) + v5) ((I mx_joint ((10 * v4) + v5).toNatClampNeg) + (I mx_joint ((10 * (v2 ^^^ v4)) + v5).toNatClampNeg)) hT g6 c7) (Nat.le_refl _) (Nat.le_refl _) hc hs (fun j h9 => by cases h9) (fun _ _ => rfl) ?_
      show ab_E w (d + 1) mt_M_tellJoints 146 [.ref mx, .int v1, .int v2, .int v3, .int v4, .int v5, .null] [.int 0] (I, L, ab_RR, n, nc, ns) res
      refine ab_istore (i := 6) d_M_tellJoints_146 (by decide) (Or.inr rfl) ?_
      refine ab_iinc (i := 5) (v := (v5 + 1)) d_M_tellJoints_148 rfl rfl (by decide) (Or.inr rfl) ?_
      refine ab_goto (tgt := 97) d_M_tellJoints_151 (by decide) ?_
      refine ab_drop 6 ?_
      exact h
theorem r_M_joined_0 {w : ab_Wd} {d n nc ns : Nat} {I : Nat → Nat → Int32} {L : Nat → Nat → Int64} {res : ab_Re} (hT : w.1.stackTraces = false) (v1 : Int32) (hc : nc ≤ res.2.2.2.2.2.1) (hs : ns ≤ res.2.2.2.2.2.2)
    (h : ((v1 < 0 → (res = (.inl (some (.int 0)), ((ab_up (ab_up I mx 1 0) mx 1 1), L, ab_RR, n, nc, ns)))) ∧ (¬ v1 < 0 → (((((1 : Int32) <<< ((I mx 2) &&& 31)) - 1) < v1 → (res = (.inl (some (.int 0)), ((ab_up (ab_up I mx 1 0) mx 1 1), L, ab_RR, n, nc, ns)))) ∧ (¬ (((1 : Int32) <<< ((I mx 2) &&& 31)) - 1) < v1 → (∃ (r8 : Int32), ab_C w d mt_Integer_bitCount [.int v1] ((ab_up I mx 1 0), L, ab_RR, n, nc, ns) (.inl (some (.int r8)), ((ab_up I mx 1 0), L, ab_RR, n, nc, ns)) ∧ ((2 ≤ r8 → (∃ (I11 : Nat → Nat → Int32), ab_C w d mt_M_tellJoints [.ref mx, .int v1] ((ab_up I mx 1 0), L, ab_RR, n, nc, ns) (.inl none, (I11, L, ab_RR, n, nc, ns)) ∧ ab_E w (d + 1) mt_M_joined 48 [.ref mx, .int v1, .int 1000000, .int 0] [] (I11, L, ab_RR, n, nc, ns) res)) ∧ (¬ 2 ≤ r8 → (res = (.inl (some (.int 0)), ((ab_up I mx 1 0), L, ab_RR, n, nc, ns))))))))))) : ab_E w (d + 1) mt_M_joined 0 [.ref mx, .int v1, .null, .null] [] (I, L, ab_RR, n, nc, ns) res := by
  refine ab_aload_n (i := 0) d_M_joined_0 rfl rfl ?_
  refine ab_iconst (v := 0) d_M_joined_1 rfl ?_
  refine ab_putI (ci := 11) (k := 1) d_M_joined_2 v_1369 rfl (by decide) (by decide) rfl (Or.inl rfl) rfl rfl ?_
  refine ab_iload_n (i := 1) d_M_joined_5 rfl rfl ?_
  refine ab_iconst (v := 0) d_M_joined_6 rfl ?_
  refine ab_iconst (v := 1) d_M_joined_7 rfl ?_
  refine ab_aload_n (i := 0) d_M_joined_8 rfl rfl ?_
  refine ab_getI (ci := 11) (k := 2) d_M_joined_9 v_1370 rfl (by decide) (by decide) rfl ?_
  refine ab_ishl d_M_joined_12 ?_
  refine ab_iconst (v := 1) d_M_joined_13 rfl ?_
  refine ab_isub d_M_joined_14 ?_
  by_cases c2 : v1 < 0
  · have h := h.1 c2
    refine ab_callS (me2 := mt_M_isIn) (as := [.int v1, .int 0, .int (((1 : Int32) <<< ((I mx 2) &&& 31)) - 1)]) (st := []) (rv := (some (.int 0))) (M2 := ((ab_up I mx 1 0), L, ab_RR, n, nc, ns)) d_M_joined_15 ce_M_isIn ⟨v_1753, Or.inl v_1752⟩ (Nat.le_of_ble_eq_true rfl) (cx_M_isIn_0 v1 0 (((1 : Int32) <<< ((I mx 2) &&& 31)) - 1) hT c2) (Nat.le_refl _) (Nat.le_refl _) hc hs (fun j h9 => by cases h9) (fun _ _ => rfl) ?_
    show ab_E w (d + 1) mt_M_joined 18 [.ref mx, .int v1, .null, .null] [.int 0] ((ab_up I mx 1 0), L, ab_RR, n, nc, ns) res
    refine ab_if_ne (tgt := 27) d_M_joined_18 (by decide) (fun c9 => absurd (show (0 : Int32) = 0 from by decide) c9) (fun _ => ?_)
    refine ab_aload_n (i := 0) d_M_joined_21 rfl rfl ?_
    refine ab_iconst (v := 1) d_M_joined_22 rfl ?_
    refine ab_callV (me2 := mt_M_fail) (b := mx) (as := [.int 1]) (st := []) (rv := (some (.int 0))) (M2 := ((ab_up (ab_up I mx 1 0) mx 1 1), L, ab_RR, n, nc, ns)) d_M_joined_23 ce_M_fail v_1562 v_1564 v_66 (by decide) rfl (Nat.le_of_ble_eq_true rfl) (cx_M_fail_0 1 hT) (Nat.le_refl _) (Nat.le_refl _) hc hs (fun j h9 => by cases h9) (fun _ _ => rfl) ?_
    show ab_E w (d + 1) mt_M_joined 26 [.ref mx, .int v1, .null, .null] [.int 0] ((ab_up (ab_up I mx 1 0) mx 1 1), L, ab_RR, n, nc, ns) res
    exact ab_iret (ty := .int) d_M_joined_26 rfl rfl h
  · have h := h.2 c2
    by_cases c5 : (((1 : Int32) <<< ((I mx 2) &&& 31)) - 1) < v1
    · have h := h.1 c5
      refine ab_callS (me2 := mt_M_isIn) (as := [.int v1, .int 0, .int (((1 : Int32) <<< ((I mx 2) &&& 31)) - 1)]) (st := []) (rv := (some (.int 0))) (M2 := ((ab_up I mx 1 0), L, ab_RR, n, nc, ns)) d_M_joined_15 ce_M_isIn ⟨v_1753, Or.inl v_1752⟩ (Nat.le_of_ble_eq_true rfl) (cx_M_isIn_1 v1 0 (((1 : Int32) <<< ((I mx 2) &&& 31)) - 1) hT c2 c5) (Nat.le_refl _) (Nat.le_refl _) hc hs (fun j h9 => by cases h9) (fun _ _ => rfl) ?_
      show ab_E w (d + 1) mt_M_joined 18 [.ref mx, .int v1, .null, .null] [.int 0] ((ab_up I mx 1 0), L, ab_RR, n, nc, ns) res
      refine ab_if_ne (tgt := 27) d_M_joined_18 (by decide) (fun c9 => absurd (show (0 : Int32) = 0 from by decide) c9) (fun _ => ?_)
      refine ab_aload_n (i := 0) d_M_joined_21 rfl rfl ?_
      refine ab_iconst (v := 1) d_M_joined_22 rfl ?_
      refine ab_callV (me2 := mt_M_fail) (b := mx) (as := [.int 1]) (st := []) (rv := (some (.int 0))) (M2 := ((ab_up (ab_up I mx 1 0) mx 1 1), L, ab_RR, n, nc, ns)) d_M_joined_23 ce_M_fail v_1562 v_1564 v_66 (by decide) rfl (Nat.le_of_ble_eq_true rfl) (cx_M_fail_0 1 hT) (Nat.le_refl _) (Nat.le_refl _) hc hs (fun j h9 => by cases h9) (fun _ _ => rfl) ?_
      show ab_E w (d + 1) mt_M_joined 26 [.ref mx, .int v1, .null, .null] [.int 0] ((ab_up (ab_up I mx 1 0) mx 1 1), L, ab_RR, n, nc, ns) res
      exact ab_iret (ty := .int) d_M_joined_26 rfl rfl h
    · have h := h.2 c5
      refine ab_callS (me2 := mt_M_isIn) (as := [.int v1, .int 0, .int (((1 : Int32) <<< ((I mx 2) &&& 31)) - 1)]) (st := []) (rv := (some (.int 1))) (M2 := ((ab_up I mx 1 0), L, ab_RR, n, nc, ns)) d_M_joined_15 ce_M_isIn ⟨v_1753, Or.inl v_1752⟩ (Nat.le_of_ble_eq_true rfl) (cx_M_isIn_2 v1 0 (((1 : Int32) <<< ((I mx 2) &&& 31)) - 1) hT c2 c5) (Nat.le_refl _) (Nat.le_refl _) hc hs (fun j h9 => by cases h9) (fun _ _ => rfl) ?_
      show ab_E w (d + 1) mt_M_joined 18 [.ref mx, .int v1, .null, .null] [.int 1] ((ab_up I mx 1 0), L, ab_RR, n, nc, ns) res
      refine ab_if_ne (tgt := 27) d_M_joined_18 (by decide) (fun _ => ?_) (fun c9 => absurd c9 (show ¬ (1 : Int32) = 0 from by decide))
      refine ab_iload_n (i := 1) d_M_joined_27 rfl rfl ?_
      obtain ⟨r8, hC, h⟩ := h
      refine ab_callS (me2 := mt_Integer_bitCount) (as := [.int v1]) (st := []) (rv := (some (.int r8))) (M2 := ((ab_up I mx 1 0), L, ab_RR, n, nc, ns)) d_M_joined_28 ce_Integer_bitCount ⟨v_965, Or.inl v_1879⟩ (Nat.le_of_ble_eq_true rfl) hC (Nat.le_refl _) (Nat.le_refl _) hc hs (fun j h9 => by cases h9) (fun _ _ => rfl) ?_
      show ab_E w (d + 1) mt_M_joined 31 [.ref mx, .int v1, .null, .null] [.int r8] ((ab_up I mx 1 0), L, ab_RR, n, nc, ns) res
      refine ab_iconst (v := 2) d_M_joined_31 rfl ?_
      refine ab_icmp_ge (tgt := 37) d_M_joined_32 (by decide) (fun c9 => ?_) (fun c9 => ?_)
      · have h := h.1 c9
        refine ab_aload_n (i := 0) d_M_joined_37 rfl rfl ?_
        refine ab_iload_n (i := 1) d_M_joined_38 rfl rfl ?_
        obtain ⟨I11, hC, h⟩ := h
        refine ab_callV (me2 := mt_M_tellJoints) (b := mx) (as := [.int v1]) (st := []) (rv := none) (M2 := (I11, L, ab_RR, n, nc, ns)) d_M_joined_39 ce_M_tellJoints v_1880 v_1882 v_125 (by decide) rfl (Nat.le_of_ble_eq_true rfl) hC (Nat.le_refl _) (Nat.le_refl _) hc hs (fun j h9 => by cases h9) (fun _ _ => rfl) ?_
        show ab_E w (d + 1) mt_M_joined 42 [.ref mx, .int v1, .null, .null] [] (I11, L, ab_RR, n, nc, ns) res
        refine ab_ldcw (v := 1000000) d_M_joined_42 v_1743 ?_
        refine ab_istore_n (i := 2) d_M_joined_45 rfl (by decide) (Or.inr rfl) ?_
        refine ab_iconst (v := 0) d_M_joined_46 rfl ?_
        refine ab_istore_n (i := 3) d_M_joined_47 rfl (by decide) (Or.inr rfl) ?_
        exact h
      · have h := h.2 c9
        refine ab_iconst (v := 0) d_M_joined_35 rfl ?_
        exact ab_iret (ty := .int) d_M_joined_36 rfl rfl h
theorem r_M_joined_48 {w : ab_Wd} {d n nc ns : Nat} {I : Nat → Nat → Int32} {L : Nat → Nat → Int64} {res : ab_Re} (hT : w.1.stackTraces = false) (v1 : Int32) (v2 : Int32) (v3 : Int32) (hc : nc ≤ res.2.2.2.2.2.1) (hs : ns ≤ res.2.2.2.2.2.2)
    (h : (((I mx 2) ≤ v3 → ((v2 < 1000000 → (res = (.inl (some (.int v2)), (I, L, ab_RR, n, nc, ns)))) ∧ (¬ v2 < 1000000 → (res = (.inl (some (.int (-1))), (I, L, ab_RR, n, nc, ns)))))) ∧ (¬ (I mx 2) ≤ v3 → ((vp_in ((10 * v1) + v3) 10240) ∧ ab_E w (d + 1) mt_M_joined 48 [.ref mx, .int v1, .int (ab_min32 v2 (I mx_joint ((10 * v1) + v3).toNatClampNeg)), .int (v3 + 1)] [] (I, L, ab_RR, n, nc, ns) res)))) : ab_E w (d + 1) mt_M_joined 48 [.ref mx, .int v1, .int v2, .int v3] [] (I, L, ab_RR, n, nc, ns) res := by
  refine ab_iload_n (i := 3) d_M_joined_48 rfl rfl ?_
  refine ab_aload_n (i := 0) d_M_joined_49 rfl rfl ?_
  refine ab_getI (ci := 11) (k := 2) d_M_joined_50 v_1370 rfl (by decide) (by decide) rfl ?_
  refine ab_icmp_ge (tgt := 78) d_M_joined_53 (by decide) (fun c1 => ?_) (fun c1 => ?_)
  · have h := h.1 c1
    refine ab_iload_n (i := 2) d_M_joined_78 rfl rfl ?_
    refine ab_ldcw (v := 1000000) d_M_joined_79 v_1743 ?_
    refine ab_icmp_lt (tgt := 89) d_M_joined_82 (by decide) (fun c2 => ?_) (fun c2 => ?_)
    · have h := h.1 c2
      refine ab_iload_n (i := 2) d_M_joined_89 rfl rfl ?_
      exact ab_iret (ty := .int) d_M_joined_90 rfl rfl h
    · have h := h.2 c2
      refine ab_iconst (v := (-1)) d_M_joined_85 rfl ?_
      refine ab_goto (tgt := 90) d_M_joined_86 (by decide) ?_
      exact ab_iret (ty := .int) d_M_joined_90 rfl rfl h
  · have h := h.2 c1
    refine ab_iload_n (i := 2) d_M_joined_56 rfl rfl ?_
    refine ab_aload_n (i := 0) d_M_joined_57 rfl rfl ?_
    refine ab_getR (ci := 11) (k := 40) (j := mx_joint) d_M_joined_58 v_1408 rfl (by decide) (by decide) rfl r_mx_40 ?_
    refine ab_bipush (v := 10) d_M_joined_61 rfl ?_
    refine ab_iload_n (i := 1) d_M_joined_63 rfl rfl ?_
    refine ab_imul d_M_joined_64 ?_
    refine ab_iload_n (i := 3) d_M_joined_65 rfl rfl ?_
    refine ab_iadd d_M_joined_66 ?_
    have g3 := h.1; have h := h.2
    refine ab_iald d_M_joined_67 rfl rfl g3 ?_
    refine ab_min d_M_joined_68 v_1581 v_448 v_150 v_449 (Nat.succ_le_succ (Nat.zero_le _)) (Nat.le_of_ble_eq_true rfl) hc hs ?_
    refine ab_istore_n (i := 2) d_M_joined_71 rfl (by decide) (Or.inr rfl) ?_
    refine ab_iinc (i := 3) (v := (v3 + 1)) d_M_joined_72 rfl rfl (by decide) (Or.inr rfl) ?_
    refine ab_goto (tgt := 48) d_M_joined_75 (by decide) ?_
    exact h
theorem r_M_swap_0 {w : ab_Wd} {d n nc ns : Nat} {I : Nat → Nat → Int32} {L : Nat → Nat → Int64} {res : ab_Re} (hT : w.1.stackTraces = false) (v1 : Int32) (v2 : Int32) (hc : nc ≤ res.2.2.2.2.2.1) (hs : ns ≤ res.2.2.2.2.2.2)
    (h : ((v1 < 0 → (res = (.inl (some (.int 0)), ((ab_up (ab_up I mx 1 0) mx 1 1), L, ab_RR, n, nc, ns)))) ∧ (¬ v1 < 0 → ((((ab_min32 60 (I mx_now 2)) - 1) < v1 → (res = (.inl (some (.int 0)), ((ab_up (ab_up I mx 1 0) mx 1 1), L, ab_RR, n, nc, ns)))) ∧ (¬ ((ab_min32 60 (I mx_now 2)) - 1) < v1 → ((v2 < 0 → (res = (.inl (some (.int 0)), ((ab_up (ab_up I mx 1 0) mx 1 1), L, ab_RR, n, nc, ns)))) ∧ (¬ v2 < 0 → ((4 < v2 → (res = (.inl (some (.int 0)), ((ab_up (ab_up I mx 1 0) mx 1 1), L, ab_RR, n, nc, ns)))) ∧ (¬ 4 < v2 → ((vp_in ((99 + (5 * ((((I mx_now 2) - 1) - v1) - (((I mx_now 2) - 1) - v1) / 60 * 60))) + v2) 399) ∧ res = (.inl (some (.int (I mx_now ((99 + (5 * ((((I mx_now 2) - 1) - v1) - (((I mx_now 2) - 1) - v1) / 60 * 60))) + v2).toNatClampNeg))), ((ab_up I mx 1 0), L, ab_RR, n, nc, ns)))))))))))) : ab_E w (d + 1) mt_M_swap 0 [.ref mx, .int v1, .int v2, .null] [] (I, L, ab_RR, n, nc, ns) res := by
  refine ab_aload_n (i := 0) d_M_swap_0 rfl rfl ?_
  refine ab_iconst (v := 0) d_M_swap_1 rfl ?_
  refine ab_putI (ci := 11) (k := 1) d_M_swap_2 v_1369 rfl (by decide) (by decide) rfl (Or.inl rfl) rfl rfl ?_
  refine ab_iload_n (i := 1) d_M_swap_5 rfl rfl ?_
  refine ab_iconst (v := 0) d_M_swap_6 rfl ?_
  refine ab_bipush (v := 60) d_M_swap_7 rfl ?_
  refine ab_aload_n (i := 0) d_M_swap_9 rfl rfl ?_
  refine ab_getR (ci := 11) (k := 4) (j := mx_now) d_M_swap_10 v_1372 rfl (by decide) (by decide) rfl r_mx_4 ?_
  refine ab_iconst (v := 2) d_M_swap_13 rfl ?_
  refine ab_iald d_M_swap_14 rfl rfl (by unfold vp_in; decide) ?_
  refine ab_min d_M_swap_15 v_1581 v_448 v_150 v_449 (Nat.succ_le_succ (Nat.zero_le _)) (Nat.le_of_ble_eq_true rfl) hc hs ?_
  refine ab_iconst (v := 1) d_M_swap_18 rfl ?_
  refine ab_isub d_M_swap_19 ?_
  by_cases c2 : v1 < 0
  · have h := h.1 c2
    refine ab_callS (me2 := mt_M_isIn) (as := [.int v1, .int 0, .int ((ab_min32 60 (I mx_now 2)) - 1)]) (st := []) (rv := (some (.int 0))) (M2 := ((ab_up I mx 1 0), L, ab_RR, n, nc, ns)) d_M_swap_20 ce_M_isIn ⟨v_1753, Or.inl v_1752⟩ (Nat.le_of_ble_eq_true rfl) (cx_M_isIn_0 v1 0 ((ab_min32 60 (I mx_now 2)) - 1) hT c2) (Nat.le_refl _) (Nat.le_refl _) hc hs (fun j h9 => by cases h9) (fun _ _ => rfl) ?_
    show ab_E w (d + 1) mt_M_swap 23 [.ref mx, .int v1, .int v2, .null] [.int 0] ((ab_up I mx 1 0), L, ab_RR, n, nc, ns) res
    refine ab_if_eq (tgt := 39) d_M_swap_23 (by decide) (fun _ => ?_) (fun c9 => absurd (show (0 : Int32) = 0 from by decide) c9)
    refine ab_iconst (v := 0) d_M_swap_39 rfl ?_
    refine ab_istore_n (i := 3) d_M_swap_40 rfl (by decide) (Or.inr rfl) ?_
    refine ab_iload_n (i := 3) d_M_swap_41 rfl rfl ?_
    refine ab_if_eq (tgt := 73) d_M_swap_42 (by decide) (fun _ => ?_) (fun c9 => absurd (show (0 : Int32) = 0 from by decide) c9)
    refine ab_aload_n (i := 0) d_M_swap_73 rfl rfl ?_
    refine ab_iconst (v := 1) d_M_swap_74 rfl ?_
    refine ab_callV (me2 := mt_M_fail) (b := mx) (as := [.int 1]) (st := []) (rv := (some (.int 0))) (M2 := ((ab_up (ab_up I mx 1 0) mx 1 1), L, ab_RR, n, nc, ns)) d_M_swap_75 ce_M_fail v_1562 v_1564 v_66 (by decide) rfl (Nat.le_of_ble_eq_true rfl) (cx_M_fail_0 1 hT) (Nat.le_refl _) (Nat.le_refl _) hc hs (fun j h9 => by cases h9) (fun _ _ => rfl) ?_
    show ab_E w (d + 1) mt_M_swap 78 [.ref mx, .int v1, .int v2, .int 0] [.int 0] ((ab_up (ab_up I mx 1 0) mx 1 1), L, ab_RR, n, nc, ns) res
    exact ab_iret (ty := .int) d_M_swap_78 rfl rfl h
  · have h := h.2 c2
    by_cases c5 : ((ab_min32 60 (I mx_now 2)) - 1) < v1
    · have h := h.1 c5
      refine ab_callS (me2 := mt_M_isIn) (as := [.int v1, .int 0, .int ((ab_min32 60 (I mx_now 2)) - 1)]) (st := []) (rv := (some (.int 0))) (M2 := ((ab_up I mx 1 0), L, ab_RR, n, nc, ns)) d_M_swap_20 ce_M_isIn ⟨v_1753, Or.inl v_1752⟩ (Nat.le_of_ble_eq_true rfl) (cx_M_isIn_1 v1 0 ((ab_min32 60 (I mx_now 2)) - 1) hT c2 c5) (Nat.le_refl _) (Nat.le_refl _) hc hs (fun j h9 => by cases h9) (fun _ _ => rfl) ?_
      show ab_E w (d + 1) mt_M_swap 23 [.ref mx, .int v1, .int v2, .null] [.int 0] ((ab_up I mx 1 0), L, ab_RR, n, nc, ns) res
      refine ab_if_eq (tgt := 39) d_M_swap_23 (by decide) (fun _ => ?_) (fun c9 => absurd (show (0 : Int32) = 0 from by decide) c9)
      refine ab_iconst (v := 0) d_M_swap_39 rfl ?_
      refine ab_istore_n (i := 3) d_M_swap_40 rfl (by decide) (Or.inr rfl) ?_
      refine ab_iload_n (i := 3) d_M_swap_41 rfl rfl ?_
      refine ab_if_eq (tgt := 73) d_M_swap_42 (by decide) (fun _ => ?_) (fun c9 => absurd (show (0 : Int32) = 0 from by decide) c9)
      refine ab_aload_n (i := 0) d_M_swap_73 rfl rfl ?_
      refine ab_iconst (v := 1) d_M_swap_74 rfl ?_
      refine ab_callV (me2 := mt_M_fail) (b := mx) (as := [.int 1]) (st := []) (rv := (some (.int 0))) (M2 := ((ab_up (ab_up I mx 1 0) mx 1 1), L, ab_RR, n, nc, ns)) d_M_swap_75 ce_M_fail v_1562 v_1564 v_66 (by decide) rfl (Nat.le_of_ble_eq_true rfl) (cx_M_fail_0 1 hT) (Nat.le_refl _) (Nat.le_refl _) hc hs (fun j h9 => by cases h9) (fun _ _ => rfl) ?_
      show ab_E w (d + 1) mt_M_swap 78 [.ref mx, .int v1, .int v2, .int 0] [.int 0] ((ab_up (ab_up I mx 1 0) mx 1 1), L, ab_RR, n, nc, ns) res
      exact ab_iret (ty := .int) d_M_swap_78 rfl rfl h
    · have h := h.2 c5
      refine ab_callS (me2 := mt_M_isIn) (as := [.int v1, .int 0, .int ((ab_min32 60 (I mx_now 2)) - 1)]) (st := []) (rv := (some (.int 1))) (M2 := ((ab_up I mx 1 0), L, ab_RR, n, nc, ns)) d_M_swap_20 ce_M_isIn ⟨v_1753, Or.inl v_1752⟩ (Nat.le_of_ble_eq_true rfl) (cx_M_isIn_2 v1 0 ((ab_min32 60 (I mx_now 2)) - 1) hT c2 c5) (Nat.le_refl _) (Nat.le_refl _) hc hs (fun j h9 => by cases h9) (fun _ _ => rfl) ?_
      show ab_E w (d + 1) mt_M_swap 23 [.ref mx, .int v1, .int v2, .null] [.int 1] ((ab_up I mx 1 0), L, ab_RR, n, nc, ns) res
      refine ab_if_eq (tgt := 39) d_M_swap_23 (by decide) (fun c9 => absurd c9 (show ¬ (1 : Int32) = 0 from by decide)) (fun _ => ?_)
      refine ab_iload_n (i := 2) d_M_swap_26 rfl rfl ?_
      refine ab_iconst (v := 0) d_M_swap_27 rfl ?_
      refine ab_iconst (v := 4) d_M_swap_28 rfl ?_
      by_cases c9 : v2 < 0
      · have h := h.1 c9
        refine ab_callS (me2 := mt_M_isIn) (as := [.int v2, .int 0, .int 4]) (st := []) (rv := (some (.int 0))) (M2 := ((ab_up I mx 1 0), L, ab_RR, n, nc, ns)) d_M_swap_29 ce_M_isIn ⟨v_1753, Or.inl v_1752⟩ (Nat.le_of_ble_eq_true rfl) (cx_M_isIn_0 v2 0 4 hT c9) (Nat.le_refl _) (Nat.le_refl _) hc hs (fun j h9 => by cases h9) (fun _ _ => rfl) ?_
        show ab_E w (d + 1) mt_M_swap 32 [.ref mx, .int v1, .int v2, .null] [.int 0] ((ab_up I mx 1 0), L, ab_RR, n, nc, ns) res
        refine ab_if_eq (tgt := 39) d_M_swap_32 (by decide) (fun _ => ?_) (fun c9 => absurd (show (0 : Int32) = 0 from by decide) c9)
        refine ab_iconst (v := 0) d_M_swap_39 rfl ?_
        refine ab_istore_n (i := 3) d_M_swap_40 rfl (by decide) (Or.inr rfl) ?_
        refine ab_iload_n (i := 3) d_M_swap_41 rfl rfl ?_
        refine ab_if_eq (tgt := 73) d_M_swap_42 (by decide) (fun _ => ?_) (fun c9 => absurd (show (0 : Int32) = 0 from by decide) c9)
        refine ab_aload_n (i := 0) d_M_swap_73 rfl rfl ?_
        refine ab_iconst (v := 1) d_M_swap_74 rfl ?_
        refine ab_callV (me2 := mt_M_fail) (b := mx) (as := [.int 1]) (st := []) (rv := (some (.int 0))) (M2 := ((ab_up (ab_up I mx 1 0) mx 1 1), L, ab_RR, n, nc, ns)) d_M_swap_75 ce_M_fail v_1562 v_1564 v_66 (by decide) rfl (Nat.le_of_ble_eq_true rfl) (cx_M_fail_0 1 hT) (Nat.le_refl _) (Nat.le_refl _) hc hs (fun j h9 => by cases h9) (fun _ _ => rfl) ?_
        show ab_E w (d + 1) mt_M_swap 78 [.ref mx, .int v1, .int v2, .int 0] [.int 0] ((ab_up (ab_up I mx 1 0) mx 1 1), L, ab_RR, n, nc, ns) res
        exact ab_iret (ty := .int) d_M_swap_78 rfl rfl h
      · have h := h.2 c9
        by_cases c12 : 4 < v2
        · have h := h.1 c12
          refine ab_callS (me2 := mt_M_isIn) (as := [.int v2, .int 0, .int 4]) (st := []) (rv := (some (.int 0))) (M2 := ((ab_up I mx 1 0), L, ab_RR, n, nc, ns)) d_M_swap_29 ce_M_isIn ⟨v_1753, Or.inl v_1752⟩ (Nat.le_of_ble_eq_true rfl) (cx_M_isIn_1 v2 0 4 hT c9 c12) (Nat.le_refl _) (Nat.le_refl _) hc hs (fun j h9 => by cases h9) (fun _ _ => rfl) ?_
          show ab_E w (d + 1) mt_M_swap 32 [.ref mx, .int v1, .int v2, .null] [.int 0] ((ab_up I mx 1 0), L, ab_RR, n, nc, ns) res
          refine ab_if_eq (tgt := 39) d_M_swap_32 (by decide) (fun _ => ?_) (fun c9 => absurd (show (0 : Int32) = 0 from by decide) c9)
          refine ab_iconst (v := 0) d_M_swap_39 rfl ?_
          refine ab_istore_n (i := 3) d_M_swap_40 rfl (by decide) (Or.inr rfl) ?_
          refine ab_iload_n (i := 3) d_M_swap_41 rfl rfl ?_
          refine ab_if_eq (tgt := 73) d_M_swap_42 (by decide) (fun _ => ?_) (fun c9 => absurd (show (0 : Int32) = 0 from by decide) c9)
          refine ab_aload_n (i := 0) d_M_swap_73 rfl rfl ?_
          refine ab_iconst (v := 1) d_M_swap_74 rfl ?_
          refine ab_callV (me2 := mt_M_fail) (b := mx) (as := [.int 1]) (st := []) (rv := (some (.int 0))) (M2 := ((ab_up (ab_up I mx 1 0) mx 1 1), L, ab_RR, n, nc, ns)) d_M_swap_75 ce_M_fail v_1562 v_1564 v_66 (by decide) rfl (Nat.le_of_ble_eq_true rfl) (cx_M_fail_0 1 hT) (Nat.le_refl _) (Nat.le_refl _) hc hs (fun j h9 => by cases h9) (fun _ _ => rfl) ?_
          show ab_E w (d + 1) mt_M_swap 78 [.ref mx, .int v1, .int v2, .int 0] [.int 0] ((ab_up (ab_up I mx 1 0) mx 1 1), L, ab_RR, n, nc, ns) res
          exact ab_iret (ty := .int) d_M_swap_78 rfl rfl h
        · have h := h.2 c12
          refine ab_callS (me2 := mt_M_isIn) (as := [.int v2, .int 0, .int 4]) (st := []) (rv := (some (.int 1))) (M2 := ((ab_up I mx 1 0), L, ab_RR, n, nc, ns)) d_M_swap_29 ce_M_isIn ⟨v_1753, Or.inl v_1752⟩ (Nat.le_of_ble_eq_true rfl) (cx_M_isIn_2 v2 0 4 hT c9 c12) (Nat.le_refl _) (Nat.le_refl _) hc hs (fun j h9 => by cases h9) (fun _ _ => rfl) ?_
          show ab_E w (d + 1) mt_M_swap 32 [.ref mx, .int v1, .int v2, .null] [.int 1] ((ab_up I mx 1 0), L, ab_RR, n, nc, ns) res
          refine ab_if_eq (tgt := 39) d_M_swap_32 (by decide) (fun c9 => absurd c9 (show ¬ (1 : Int32) = 0 from by decide)) (fun _ => ?_)
          refine ab_iconst (v := 1) d_M_swap_35 rfl ?_
          refine ab_goto (tgt := 40) d_M_swap_36 (by decide) ?_
          refine ab_istore_n (i := 3) d_M_swap_40 rfl (by decide) (Or.inr rfl) ?_
          refine ab_iload_n (i := 3) d_M_swap_41 rfl rfl ?_
          refine ab_if_eq (tgt := 73) d_M_swap_42 (by decide) (fun c9 => absurd c9 (show ¬ (1 : Int32) = 0 from by decide)) (fun _ => ?_)
          refine ab_aload_n (i := 0) d_M_swap_45 rfl rfl ?_
          refine ab_getR (ci := 11) (k := 4) (j := mx_now) d_M_swap_46 v_1372 rfl (by decide) (by decide) rfl r_mx_4 ?_
          refine ab_bipush (v := 99) d_M_swap_49 rfl ?_
          refine ab_iconst (v := 5) d_M_swap_51 rfl ?_
          refine ab_aload_n (i := 0) d_M_swap_52 rfl rfl ?_
          refine ab_getR (ci := 11) (k := 4) (j := mx_now) d_M_swap_53 v_1372 rfl (by decide) (by decide) rfl r_mx_4 ?_
          refine ab_iconst (v := 2) d_M_swap_56 rfl ?_
          refine ab_iald d_M_swap_57 rfl rfl (by unfold vp_in; decide) ?_
          refine ab_iconst (v := 1) d_M_swap_58 rfl ?_
          refine ab_isub d_M_swap_59 ?_
          refine ab_iload_n (i := 1) d_M_swap_60 rfl rfl ?_
          refine ab_isub d_M_swap_61 ?_
          refine ab_bipush (v := 60) d_M_swap_62 rfl ?_
          refine ab_irem d_M_swap_64 (by decide) ?_
          refine ab_imul d_M_swap_65 ?_
          refine ab_iadd d_M_swap_66 ?_
          refine ab_iload_n (i := 2) d_M_swap_67 rfl rfl ?_
          refine ab_iadd d_M_swap_68 ?_
          have g15 := h.1; have h := h.2
          refine ab_iald d_M_swap_69 rfl rfl g15 ?_
          refine ab_goto (tgt := 78) d_M_swap_70 (by decide) ?_
          exact ab_iret (ty := .int) d_M_swap_78 rfl rfl h
theorem cx_M_refuse_0 {w : ab_Wd} {d n nc ns : Nat} {I : Nat → Nat → Int32} {L : Nat → Nat → Int64} (v1 : Int32) (hT : w.1.stackTraces = false) (e1 : (vp_in v1 3)) (e2 : (vp_in v1 3)) : ab_C w d mt_M_refuse [.ref mx, .int v1] (I, L, ab_RR, n, nc, ns) (.inl (some (.int (-1))), ((ab_up I mx_status v1.toNatClampNeg ((I mx_status v1.toNatClampNeg) + 1)), L, ab_RR, n, nc, ns)) := by
  refine ab_C_of (by decide) rfl (Nat.le_of_ble_eq_true rfl) hT ?_
  have hc := Nat.le_refl nc
  have hs := Nat.le_refl ns
  refine ab_aload_n (i := 0) d_M_refuse_0 rfl rfl ?_
  refine ab_getR (ci := 11) (k := 6) (j := mx_status) d_M_refuse_1 v_1374 rfl (by decide) (by decide) rfl r_mx_6 ?_
  refine ab_iload_n (i := 1) d_M_refuse_4 rfl rfl ?_
  refine ab_dup2 d_M_refuse_5 ?_
  refine ab_iald d_M_refuse_6 rfl rfl e1 ?_
  refine ab_iconst (v := 1) d_M_refuse_7 rfl ?_
  refine ab_iadd d_M_refuse_8 ?_
  refine ab_iast d_M_refuse_9 rfl rfl e2 ?_
  refine ab_iconst (v := (-1)) d_M_refuse_10 rfl ?_
  exact ab_iret (ty := .int) d_M_refuse_11 rfl rfl rfl
theorem r_M_keep_0 {w : ab_Wd} {d n nc ns : Nat} {I : Nat → Nat → Int32} {L : Nat → Nat → Int64} {res : ab_Re} (hT : w.1.stackTraces = false)  (hc : nc ≤ res.2.2.2.2.2.1) (hs : ns ≤ res.2.2.2.2.2.2)
    (h : ((¬ (I mx 41) = 40 → (ab_E w d mt_M_keep 56 [.ref mx, .int 0] [] (I, L, ab_RR, n, nc, ns) res)) ∧ ((I mx 41) = 40 → (ab_E w d mt_M_keep 13 [.ref mx, .int 399] [] (I, L, ab_RR, n, nc, ns) res)))) : ab_E w d mt_M_keep 0 [.ref mx, .null] [] (I, L, ab_RR, n, nc, ns) res := by
  refine ab_aload_n (i := 0) d_M_keep_0 rfl rfl ?_
  refine ab_getI (ci := 11) (k := 41) d_M_keep_1 v_1409 rfl (by decide) (by decide) rfl ?_
  refine ab_bipush (v := 40) d_M_keep_4 rfl ?_
  refine ab_icmp_ne (tgt := 54) d_M_keep_6 (by decide) (fun c1 => ?_) (fun c1 => ?_)
  · have h := h.1 c1
    refine ab_iconst (v := 0) d_M_keep_54 rfl ?_
    refine ab_istore_n (i := 1) d_M_keep_55 rfl (by decide) (Or.inr rfl) ?_
    exact h
  · have h := h.2 c1
    refine ab_sipush (v := 399) d_M_keep_9 rfl ?_
    refine ab_istore_n (i := 1) d_M_keep_12 rfl (by decide) (Or.inr rfl) ?_
    exact h
theorem r_M_keep_13 {w : ab_Wd} {d n nc ns : Nat} {I : Nat → Nat → Int32} {L : Nat → Nat → Int64} {res : ab_Re} (hT : w.1.stackTraces = false) (v1 : Int32) (hc : nc ≤ res.2.2.2.2.2.1) (hs : ns ≤ res.2.2.2.2.2.2)
    (h : ((15960 ≤ v1 → (ab_E w d mt_M_keep 56 [.ref mx, .int 0] [] ((ab_up I mx 41 ((I mx 41) - 1)), L, ab_RR, n, nc, ns) res)) ∧ (¬ 15960 ≤ v1 → ((vp_in v1 15960) ∧ (vp_in (v1 - 399) 15960) ∧ ab_E w d mt_M_keep 13 [.ref mx, .int (v1 + 1)] [] ((ab_up I mx_past (v1 - 399).toNatClampNeg (I mx_past v1.toNatClampNeg)), L, ab_RR, n, nc, ns) res)))) : ab_E w d mt_M_keep 13 [.ref mx, .int v1] [] (I, L, ab_RR, n, nc, ns) res := by
  refine ab_iload_n (i := 1) d_M_keep_13 rfl rfl ?_
  refine ab_aload_n (i := 0) d_M_keep_14 rfl rfl ?_
  refine ab_getR (ci := 11) (k := 42) (j := mx_past) d_M_keep_15 v_1410 rfl (by decide) (by decide) rfl r_mx_42 ?_
  refine ab_alen (v := 15960) d_M_keep_18 (by decide) (by decide) rfl ?_
  refine ab_icmp_ge (tgt := 44) d_M_keep_19 (by decide) (fun c1 => ?_) (fun c1 => ?_)
  · have h := h.1 c1
    refine ab_aload_n (i := 0) d_M_keep_44 rfl rfl ?_
    refine ab_dupr d_M_keep_45 ?_
    refine ab_getI (ci := 11) (k := 41) d_M_keep_46 v_1409 rfl (by decide) (by decide) rfl ?_
    refine ab_iconst (v := 1) d_M_keep_49 rfl ?_
    refine ab_isub d_M_keep_50 ?_
    refine ab_putI (ci := 11) (k := 41) d_M_keep_51 v_1409 rfl (by decide) (by decide) rfl (Or.inl rfl) rfl rfl ?_
    refine ab_iconst (v := 0) d_M_keep_54 rfl ?_
    refine ab_istore_n (i := 1) d_M_keep_55 rfl (by decide) (Or.inr rfl) ?_
    exact h
  · have h := h.2 c1
    refine ab_aload_n (i := 0) d_M_keep_22 rfl rfl ?_
    refine ab_getR (ci := 11) (k := 42) (j := mx_past) d_M_keep_23 v_1410 rfl (by decide) (by decide) rfl r_mx_42 ?_
    refine ab_iload_n (i := 1) d_M_keep_26 rfl rfl ?_
    refine ab_sipush (v := 399) d_M_keep_27 rfl ?_
    refine ab_isub d_M_keep_30 ?_
    refine ab_aload_n (i := 0) d_M_keep_31 rfl rfl ?_
    refine ab_getR (ci := 11) (k := 42) (j := mx_past) d_M_keep_32 v_1410 rfl (by decide) (by decide) rfl r_mx_42 ?_
    refine ab_iload_n (i := 1) d_M_keep_35 rfl rfl ?_
    have g2 := h.1; have h := h.2
    refine ab_iald d_M_keep_36 rfl rfl g2 ?_
    have g3 := h.1; have h := h.2
    refine ab_iast d_M_keep_37 rfl rfl g3 ?_
    refine ab_iinc (i := 1) (v := (v1 + 1)) d_M_keep_38 rfl rfl (by decide) (Or.inr rfl) ?_
    refine ab_goto (tgt := 13) d_M_keep_41 (by decide) ?_
    exact h
theorem r_M_keep_56 {w : ab_Wd} {d n nc ns : Nat} {I : Nat → Nat → Int32} {L : Nat → Nat → Int64} {res : ab_Re} (hT : w.1.stackTraces = false) (v1 : Int32) (hc : nc ≤ res.2.2.2.2.2.1) (hs : ns ≤ res.2.2.2.2.2.2)
    (h : ((399 ≤ v1 → (res = (.inl none, ((ab_up I mx 41 ((I mx 41) + 1)), L, ab_RR, n, nc, ns)))) ∧ (¬ 399 ≤ v1 → ((vp_in v1 399) ∧ (vp_in ((399 * (I mx 41)) + v1) 15960) ∧ ab_E w d mt_M_keep 56 [.ref mx, .int (v1 + 1)] [] ((ab_up I mx_past ((399 * (I mx 41)) + v1).toNatClampNeg (I mx_now v1.toNatClampNeg)), L, ab_RR, n, nc, ns) res)))) : ab_E w d mt_M_keep 56 [.ref mx, .int v1] [] (I, L, ab_RR, n, nc, ns) res := by
  refine ab_iload_n (i := 1) d_M_keep_56 rfl rfl ?_
  refine ab_sipush (v := 399) d_M_keep_57 rfl ?_
  refine ab_icmp_ge (tgt := 90) d_M_keep_60 (by decide) (fun c1 => ?_) (fun c1 => ?_)
  · have h := h.1 c1
    refine ab_aload_n (i := 0) d_M_keep_90 rfl rfl ?_
    refine ab_dupr d_M_keep_91 ?_
    refine ab_getI (ci := 11) (k := 41) d_M_keep_92 v_1409 rfl (by decide) (by decide) rfl ?_
    refine ab_iconst (v := 1) d_M_keep_95 rfl ?_
    refine ab_iadd d_M_keep_96 ?_
    refine ab_putI (ci := 11) (k := 41) d_M_keep_97 v_1409 rfl (by decide) (by decide) rfl (Or.inl rfl) rfl rfl ?_
    exact ab_vret d_M_keep_100 rfl h
  · have h := h.2 c1
    refine ab_aload_n (i := 0) d_M_keep_63 rfl rfl ?_
    refine ab_getR (ci := 11) (k := 42) (j := mx_past) d_M_keep_64 v_1410 rfl (by decide) (by decide) rfl r_mx_42 ?_
    refine ab_sipush (v := 399) d_M_keep_67 rfl ?_
    refine ab_aload_n (i := 0) d_M_keep_70 rfl rfl ?_
    refine ab_getI (ci := 11) (k := 41) d_M_keep_71 v_1409 rfl (by decide) (by decide) rfl ?_
    refine ab_imul d_M_keep_74 ?_
    refine ab_iload_n (i := 1) d_M_keep_75 rfl rfl ?_
    refine ab_iadd d_M_keep_76 ?_
    refine ab_aload_n (i := 0) d_M_keep_77 rfl rfl ?_
    refine ab_getR (ci := 11) (k := 4) (j := mx_now) d_M_keep_78 v_1372 rfl (by decide) (by decide) rfl r_mx_4 ?_
    refine ab_iload_n (i := 1) d_M_keep_81 rfl rfl ?_
    have g2 := h.1; have h := h.2
    refine ab_iald d_M_keep_82 rfl rfl g2 ?_
    have g3 := h.1; have h := h.2
    refine ab_iast d_M_keep_83 rfl rfl g3 ?_
    refine ab_iinc (i := 1) (v := (v1 + 1)) d_M_keep_84 rfl rfl (by decide) (Or.inr rfl) ?_
    refine ab_goto (tgt := 56) d_M_keep_87 (by decide) ?_
    exact h
theorem r_M_price_0 {w : ab_Wd} {d n nc ns : Nat} {I : Nat → Nat → Int32} {L : Nat → Nat → Int64} {res : ab_Re} (hT : w.1.stackTraces = false) (v1 : Int32) (v2 : Int32) (hc : nc ≤ res.2.2.2.2.2.1) (hs : ns ≤ res.2.2.2.2.2.2)
    (h : ((v1 < 0 → (res = (.inl (some (.int (-1))), ((ab_up (ab_up I mx 1 0) mx_status 1 ((I mx_status 1) + 1)), L, ab_RR, n, nc, ns)))) ∧ (¬ v1 < 0 → ((((I mx_now 0) - 1) < v1 → (res = (.inl (some (.int (-1))), ((ab_up (ab_up I mx 1 0) mx_status 1 ((I mx_status 1) + 1)), L, ab_RR, n, nc, ns)))) ∧ (¬ ((I mx_now 0) - 1) < v1 → ((v2 < 1 → (res = (.inl (some (.int (-1))), ((ab_up (ab_up I mx 1 0) mx_status 1 ((I mx_status 1) + 1)), L, ab_RR, n, nc, ns)))) ∧ (¬ v2 < 1 → ((999 < v2 → (res = (.inl (some (.int (-1))), ((ab_up (ab_up I mx 1 0) mx_status 1 ((I mx_status 1) + 1)), L, ab_RR, n, nc, ns)))) ∧ (¬ 999 < v2 → ((vp_in (51 + v1) 399) ∧ ((¬ (I mx_now (51 + v1).toNatClampNeg) = v2 → (∃ (I19 : Nat → Nat → Int32), ab_C w (d + 1) mt_M_keep [.ref mx] ((ab_up I mx 1 0), L, ab_RR, n, nc, ns) (.inl none, (I19, L, ab_RR, n, nc, ns)) ∧ ∃ (I22 : Nat → Nat → Int32), ab_C w (d + 1) mt_M_pricesNow [.ref mx, .int v1, .int v2] (I19, L, ab_RR, n, nc, ns) (.inl none, (I22, L, ab_RR, n, nc, ns)) ∧ res = (.inl (some (.int (I19 mx_now (51 + v1).toNatClampNeg))), (I22, L, ab_RR, n, nc, ns)))) ∧ ((I mx_now (51 + v1).toNatClampNeg) = v2 → (res = (.inl (some (.int (-1))), ((ab_up (ab_up I mx 1 0) mx_status 1 ((I mx_status 1) + 1)), L, ab_RR, n, nc, ns))))))))))))))) : ab_E w (d + 2) mt_M_price 0 [.ref mx, .int v1, .int v2, .null] [] (I, L, ab_RR, n, nc, ns) res := by
  refine ab_aload_n (i := 0) d_M_price_0 rfl rfl ?_
  refine ab_iconst (v := 0) d_M_price_1 rfl ?_
  refine ab_putI (ci := 11) (k := 1) d_M_price_2 v_1369 rfl (by decide) (by decide) rfl (Or.inl rfl) rfl rfl ?_
  refine ab_aload_n (i := 0) d_M_price_5 rfl rfl ?_
  refine ab_iload_n (i := 1) d_M_price_6 rfl rfl ?_
  by_cases c2 : v1 < 0
  · have h := h.1 c2
    refine ab_callV (me2 := mt_M_isCable) (b := mx) (as := [.int v1]) (st := []) (rv := (some (.int 0))) (M2 := ((ab_up I mx 1 0), L, ab_RR, n, nc, ns)) d_M_price_7 ce_M_isCable v_1748 v_1750 v_105 (by decide) rfl (Nat.le_of_ble_eq_true rfl) (cx_M_isCable_0 v1 hT (show (vp_in 0 399) from by unfold vp_in; decide) c2) (Nat.le_refl _) (Nat.le_refl _) hc hs (fun j h9 => by cases h9) (fun _ _ => rfl) ?_
    show ab_E w (d + 2) mt_M_price 10 [.ref mx, .int v1, .int v2, .null] [.int 0] ((ab_up I mx 1 0), L, ab_RR, n, nc, ns) res
    refine ab_if_eq (tgt := 33) d_M_price_10 (by decide) (fun _ => ?_) (fun c9 => absurd (show (0 : Int32) = 0 from by decide) c9)
    refine ab_aload_n (i := 0) d_M_price_33 rfl rfl ?_
    refine ab_iconst (v := 1) d_M_price_34 rfl ?_
    refine ab_callV (me2 := mt_M_refuse) (b := mx) (as := [.int 1]) (st := []) (rv := (some (.int (-1)))) (M2 := ((ab_up (ab_up I mx 1 0) mx_status 1 ((I mx_status 1) + 1)), L, ab_RR, n, nc, ns)) d_M_price_35 ce_M_refuse v_1900 v_1902 v_128 (by decide) rfl (Nat.le_of_ble_eq_true rfl) (cx_M_refuse_0 1 hT (show (vp_in 1 3) from by unfold vp_in; decide) (show (vp_in 1 3) from by unfold vp_in; decide)) (Nat.le_refl _) (Nat.le_refl _) hc hs (fun j h9 => by cases h9) (fun _ _ => rfl) ?_
    show ab_E w (d + 2) mt_M_price 38 [.ref mx, .int v1, .int v2, .null] [.int (-1)] ((ab_up (ab_up I mx 1 0) mx_status 1 ((I mx_status 1) + 1)), L, ab_RR, n, nc, ns) res
    exact ab_iret (ty := .int) d_M_price_38 rfl rfl h
  · have h := h.2 c2
    by_cases c5 : ((I mx_now 0) - 1) < v1
    · have h := h.1 c5
      refine ab_callV (me2 := mt_M_isCable) (b := mx) (as := [.int v1]) (st := []) (rv := (some (.int 0))) (M2 := ((ab_up I mx 1 0), L, ab_RR, n, nc, ns)) d_M_price_7 ce_M_isCable v_1748 v_1750 v_105 (by decide) rfl (Nat.le_of_ble_eq_true rfl) (cx_M_isCable_1 v1 hT (show (vp_in 0 399) from by unfold vp_in; decide) c2 c5) (Nat.le_refl _) (Nat.le_refl _) hc hs (fun j h9 => by cases h9) (fun _ _ => rfl) ?_
      show ab_E w (d + 2) mt_M_price 10 [.ref mx, .int v1, .int v2, .null] [.int 0] ((ab_up I mx 1 0), L, ab_RR, n, nc, ns) res
      refine ab_if_eq (tgt := 33) d_M_price_10 (by decide) (fun _ => ?_) (fun c9 => absurd (show (0 : Int32) = 0 from by decide) c9)
      refine ab_aload_n (i := 0) d_M_price_33 rfl rfl ?_
      refine ab_iconst (v := 1) d_M_price_34 rfl ?_
      refine ab_callV (me2 := mt_M_refuse) (b := mx) (as := [.int 1]) (st := []) (rv := (some (.int (-1)))) (M2 := ((ab_up (ab_up I mx 1 0) mx_status 1 ((I mx_status 1) + 1)), L, ab_RR, n, nc, ns)) d_M_price_35 ce_M_refuse v_1900 v_1902 v_128 (by decide) rfl (Nat.le_of_ble_eq_true rfl) (cx_M_refuse_0 1 hT (show (vp_in 1 3) from by unfold vp_in; decide) (show (vp_in 1 3) from by unfold vp_in; decide)) (Nat.le_refl _) (Nat.le_refl _) hc hs (fun j h9 => by cases h9) (fun _ _ => rfl) ?_
      show ab_E w (d + 2) mt_M_price 38 [.ref mx, .int v1, .int v2, .null] [.int (-1)] ((ab_up (ab_up I mx 1 0) mx_status 1 ((I mx_status 1) + 1)), L, ab_RR, n, nc, ns) res
      exact ab_iret (ty := .int) d_M_price_38 rfl rfl h
    · have h := h.2 c5
      refine ab_callV (me2 := mt_M_isCable) (b := mx) (as := [.int v1]) (st := []) (rv := (some (.int 1))) (M2 := ((ab_up I mx 1 0), L, ab_RR, n, nc, ns)) d_M_price_7 ce_M_isCable v_1748 v_1750 v_105 (by decide) rfl (Nat.le_of_ble_eq_true rfl) (cx_M_isCable_2 v1 hT (show (vp_in 0 399) from by unfold vp_in; decide) c2 c5) (Nat.le_refl _) (Nat.le_refl _) hc hs (fun j h9 => by cases h9) (fun _ _ => rfl) ?_
      show ab_E w (d + 2) mt_M_price 10 [.ref mx, .int v1, .int v2, .null] [.int 1] ((ab_up I mx 1 0), L, ab_RR, n, nc, ns) res
      refine ab_if_eq (tgt := 33) d_M_price_10 (by decide) (fun c9 => absurd c9 (show ¬ (1 : Int32) = 0 from by decide)) (fun _ => ?_)
      refine ab_iload_n (i := 2) d_M_price_13 rfl rfl ?_
      refine ab_iconst (v := 1) d_M_price_14 rfl ?_
      refine ab_sipush (v := 999) d_M_price_15 rfl ?_
      by_cases c9 : v2 < 1
      · have h := h.1 c9
        refine ab_callS (me2 := mt_M_isIn) (as := [.int v2, .int 1, .int 999]) (st := []) (rv := (some (.int 0))) (M2 := ((ab_up I mx 1 0), L, ab_RR, n, nc, ns)) d_M_price_18 ce_M_isIn ⟨v_1753, Or.inl v_1752⟩ (Nat.le_of_ble_eq_true rfl) (cx_M_isIn_0 v2 1 999 hT c9) (Nat.le_refl _) (Nat.le_refl _) hc hs (fun j h9 => by cases h9) (fun _ _ => rfl) ?_
        show ab_E w (d + 2) mt_M_price 21 [.ref mx, .int v1, .int v2, .null] [.int 0] ((ab_up I mx 1 0), L, ab_RR, n, nc, ns) res
        refine ab_if_eq (tgt := 33) d_M_price_21 (by decide) (fun _ => ?_) (fun c9 => absurd (show (0 : Int32) = 0 from by decide) c9)
        refine ab_aload_n (i := 0) d_M_price_33 rfl rfl ?_
        refine ab_iconst (v := 1) d_M_price_34 rfl ?_
        refine ab_callV (me2 := mt_M_refuse) (b := mx) (as := [.int 1]) (st := []) (rv := (some (.int (-1)))) (M2 := ((ab_up (ab_up I mx 1 0) mx_status 1 ((I mx_status 1) + 1)), L, ab_RR, n, nc, ns)) d_M_price_35 ce_M_refuse v_1900 v_1902 v_128 (by decide) rfl (Nat.le_of_ble_eq_true rfl) (cx_M_refuse_0 1 hT (show (vp_in 1 3) from by unfold vp_in; decide) (show (vp_in 1 3) from by unfold vp_in; decide)) (Nat.le_refl _) (Nat.le_refl _) hc hs (fun j h9 => by cases h9) (fun _ _ => rfl) ?_
        show ab_E w (d + 2) mt_M_price 38 [.ref mx, .int v1, .int v2, .null] [.int (-1)] ((ab_up (ab_up I mx 1 0) mx_status 1 ((I mx_status 1) + 1)), L, ab_RR, n, nc, ns) res
        exact ab_iret (ty := .int) d_M_price_38 rfl rfl h
      · have h := h.2 c9
        by_cases c12 : 999 < v2
        · have h := h.1 c12
          refine ab_callS (me2 := mt_M_isIn) (as := [.int v2, .int 1, .int 999]) (st := []) (rv := (some (.int 0))) (M2 := ((ab_up I mx 1 0), L, ab_RR, n, nc, ns)) d_M_price_18 ce_M_isIn ⟨v_1753, Or.inl v_1752⟩ (Nat.le_of_ble_eq_true rfl) (cx_M_isIn_1 v2 1 999 hT c9 c12) (Nat.le_refl _) (Nat.le_refl _) hc hs (fun j h9 => by cases h9) (fun _ _ => rfl) ?_
          show ab_E w (d + 2) mt_M_price 21 [.ref mx, .int v1, .int v2, .null] [.int 0] ((ab_up I mx 1 0), L, ab_RR, n, nc, ns) res
          refine ab_if_eq (tgt := 33) d_M_price_21 (by decide) (fun _ => ?_) (fun c9 => absurd (show (0 : Int32) = 0 from by decide) c9)
          refine ab_aload_n (i := 0) d_M_price_33 rfl rfl ?_
          refine ab_iconst (v := 1) d_M_price_34 rfl ?_
          refine ab_callV (me2 := mt_M_refuse) (b := mx) (as := [.int 1]) (st := []) (rv := (some (.int (-1)))) (M2 := ((ab_up (ab_up I mx 1 0) mx_status 1 ((I mx_status 1) + 1)), L, ab_RR, n, nc, ns)) d_M_price_35 ce_M_refuse v_1900 v_1902 v_128 (by decide) rfl (Nat.le_of_ble_eq_true rfl) (cx_M_refuse_0 1 hT (show (vp_in 1 3) from by unfold vp_in; decide) (show (vp_in 1 3) from by unfold vp_in; decide)) (Nat.le_refl _) (Nat.le_refl _) hc hs (fun j h9 => by cases h9) (fun _ _ => rfl) ?_
          show ab_E w (d + 2) mt_M_price 38 [.ref mx, .int v1, .int v2, .null] [.int (-1)] ((ab_up (ab_up I mx 1 0) mx_status 1 ((I mx_status 1) + 1)), L, ab_RR, n, nc, ns) res
          exact ab_iret (ty := .int) d_M_price_38 rfl rfl h
        · have h := h.2 c12
          refine ab_callS (me2 := mt_M_isIn) (as := [.int v2, .int 1, .int 999]) (st := []) (rv := (some (.int 1))) (M2 := ((ab_up I mx 1 0), L, ab_RR, n, nc, ns)) d_M_price_18 ce_M_isIn ⟨v_1753, Or.inl v_1752⟩ (Nat.le_of_ble_eq_true rfl) (cx_M_isIn_2 v2 1 999 hT c9 c12) (Nat.le_refl _) (Nat.le_refl _) hc hs (fun j h9 => by cases h9) (fun _ _ => rfl) ?_
          show ab_E w (d + 2) mt_M_price 21 [.ref mx, .int v1, .int v2, .null] [.int 1] ((ab_up I mx 1 0), L, ab_RR, n, nc, ns) res
          refine ab_if_eq (tgt := 33) d_M_price_21 (by decide) (fun c9 => absurd c9 (show ¬ (1 : Int32) = 0 from by decide)) (fun _ => ?_)
          refine ab_aload_n (i := 0) d_M_price_24 rfl rfl ?_
          refine ab_iload_n (i := 1) d_M_price_25 rfl rfl ?_
          have g16 := h.1; have h := h.2
          refine ab_callV (me2 := mt_M_priceOf) (b := mx) (as := [.int v1]) (st := []) (rv := (some (.int (I mx_now (51 + v1).toNatClampNeg)))) (M2 := ((ab_up I mx 1 0), L, ab_RR, n, nc, ns)) d_M_price_26 ce_M_priceOf v_1654 v_1656 v_83 (by decide) rfl (Nat.le_of_ble_eq_true rfl) (cx_M_priceOf_0 v1 hT g16) (Nat.le_refl _) (Nat.le_refl _) hc hs (fun j h9 => by cases h9) (fun _ _ => rfl) ?_
          show ab_E w (d + 2) mt_M_price 29 [.ref mx, .int v1, .int v2, .null] [.int (I mx_now (51 + v1).toNatClampNeg)] ((ab_up I mx 1 0), L, ab_RR, n, nc, ns) res
          refine ab_iload_n (i := 2) d_M_price_29 rfl rfl ?_
          refine ab_icmp_ne (tgt := 39) d_M_price_30 (by decide) (fun c17 => ?_) (fun c17 => ?_)
          · have h := h.1 c17
            refine ab_aload_n (i := 0) d_M_price_39 rfl rfl ?_
            obtain ⟨I19, hC, h⟩ := h
            refine ab_callV (me2 := mt_M_keep) (b := mx) (as := []) (st := []) (rv := none) (M2 := (I19, L, ab_RR, n, nc, ns)) d_M_price_40 ce_M_keep v_1904 v_1906 v_129 (by decide) rfl (Nat.le_of_ble_eq_true rfl) hC (Nat.le_refl _) (Nat.le_refl _) hc hs (fun j h9 => by cases h9) (fun _ _ => rfl) ?_
            show ab_E w (d + 2) mt_M_price 43 [.ref mx, .int v1, .int v2, .null] [] (I19, L, ab_RR, n, nc, ns) res
            refine ab_aload_n (i := 0) d_M_price_43 rfl rfl ?_
            refine ab_iload_n (i := 1) d_M_price_44 rfl rfl ?_
            refine ab_callV (me2 := mt_M_priceOf) (b := mx) (as := [.int v1]) (st := []) (rv := (some (.int (I19 mx_now (51 + v1).toNatClampNeg)))) (M2 := (I19, L, ab_RR, n, nc, ns)) d_M_price_45 ce_M_priceOf v_1654 v_1656 v_83 (by decide) rfl (Nat.le_of_ble_eq_true rfl) (cx_M_priceOf_0 v1 hT g16) (Nat.le_refl _) (Nat.le_refl _) hc hs (fun j h9 => by cases h9) (fun _ _ => rfl) ?_
            show ab_E w (d + 2) mt_M_price 48 [.ref mx, .int v1, .int v2, .null] [.int (I19 mx_now (51 + v1).toNatClampNeg)] (I19, L, ab_RR, n, nc, ns) res
            refine ab_istore_n (i := 3) d_M_price_48 rfl (by decide) (Or.inr rfl) ?_
            refine ab_aload_n (i := 0) d_M_price_49 rfl rfl ?_
            refine ab_iload_n (i := 1) d_M_price_50 rfl rfl ?_
            refine ab_iload_n (i := 2) d_M_price_51 rfl rfl ?_
            obtain ⟨I22, hC, h⟩ := h
            refine ab_callV (me2 := mt_M_pricesNow) (b := mx) (as := [.int v1, .int v2]) (st := []) (rv := none) (M2 := (I22, L, ab_RR, n, nc, ns)) d_M_price_52 ce_M_pricesNow v_1908 v_1910 v_130 (by decide) rfl (Nat.le_of_ble_eq_true rfl) hC (Nat.le_refl _) (Nat.le_refl _) hc hs (fun j h9 => by cases h9) (fun _ _ => rfl) ?_
            show ab_E w (d + 2) mt_M_price 55 [.ref mx, .int v1, .int v2, .int (I19 mx_now (51 + v1).toNatClampNeg)] [] (I22, L, ab_RR, n, nc, ns) res
            refine ab_iload_n (i := 3) d_M_price_55 rfl rfl ?_
            exact ab_iret (ty := .int) d_M_price_56 rfl rfl h
          · have h := h.2 c17
            refine ab_aload_n (i := 0) d_M_price_33 rfl rfl ?_
            refine ab_iconst (v := 1) d_M_price_34 rfl ?_
            refine ab_callV (me2 := mt_M_refuse) (b := mx) (as := [.int 1]) (st := []) (rv := (some (.int (-1)))) (M2 := ((ab_up (ab_up I mx 1 0) mx_status 1 ((I mx_status 1) + 1)), L, ab_RR, n, nc, ns)) d_M_price_35 ce_M_refuse v_1900 v_1902 v_128 (by decide) rfl (Nat.le_of_ble_eq_true rfl) (cx_M_refuse_0 1 hT (show (vp_in 1 3) from by unfold vp_in; decide) (show (vp_in 1 3) from by unfold vp_in; decide)) (Nat.le_refl _) (Nat.le_refl _) hc hs (fun j h9 => by cases h9) (fun _ _ => rfl) ?_
            show ab_E w (d + 2) mt_M_price 38 [.ref mx, .int v1, .int v2, .null] [.int (-1)] ((ab_up (ab_up I mx 1 0) mx_status 1 ((I mx_status 1) + 1)), L, ab_RR, n, nc, ns) res
            exact ab_iret (ty := .int) d_M_price_38 rfl rfl h
theorem r_M_hasCables_0 {w : ab_Wd} {d n nc ns : Nat} {I : Nat → Nat → Int32} {L : Nat → Nat → Int64} {res : ab_Re} (hT : w.1.stackTraces = false) (v1 : Int32) (hc : nc ≤ res.2.2.2.2.2.1) (hs : ns ≤ res.2.2.2.2.2.2)
    (h : ab_E w (d + 1) mt_M_hasCables 4 [.ref mx, .int v1, .int 0, .int 0] [] (I, L, ab_RR, n, nc, ns) res) : ab_E w (d + 1) mt_M_hasCables 0 [.ref mx, .int v1, .null, .null] [] (I, L, ab_RR, n, nc, ns) res := by
  refine ab_iconst (v := 0) d_M_hasCables_0 rfl ?_
  refine ab_istore_n (i := 2) d_M_hasCables_1 rfl (by decide) (Or.inr rfl) ?_
  refine ab_iconst (v := 0) d_M_hasCables_2 rfl ?_
  refine ab_istore_n (i := 3) d_M_hasCables_3 rfl (by decide) (Or.inr rfl) ?_
  exact h
theorem r_M_hasCables_4 {w : ab_Wd} {d n nc ns : Nat} {I : Nat → Nat → Int32} {L : Nat → Nat → Int64} {res : ab_Re} (hT : w.1.stackTraces = false) (v1 : Int32) (v2 : Int32) (v3 : Int32) (hc : nc ≤ res.2.2.2.2.2.1) (hs : ns ≤ res.2.2.2.2.2.2)
    (h : (((I mx_now 0) ≤ v3 → ((narrow .boolean (.int v2) = .int v2) ∧ res = (.inl (some (.int v2)), (I, L, ab_RR, n, nc, ns)))) ∧ (¬ (I mx_now 0) ≤ v3 → ((¬ v2 = 0 → (ab_E w (d + 1) mt_M_hasCables 4 [.ref mx, .int v1, .int 1, .int (v3 + 1)] [] (I, L, ab_RR, n, nc, ns) res)) ∧ (v2 = 0 → ((vp_in (75 + v3) 399) ∧ ((¬ (I mx_now (75 + v3).toNatClampNeg) = v1 → (ab_E w (d + 1) mt_M_hasCables 4 [.ref mx, .int v1, .int 0, .int (v3 + 1)] [] (I, L, ab_RR, n, nc, ns) res)) ∧ ((I mx_now (75 + v3).toNatClampNeg) = v1 → (ab_E w (d + 1) mt_M_hasCables 4 [.ref mx, .int v1, .int 1, .int (v3 + 1)] [] (I, L, ab_RR, n, nc, ns) res))))))))) : ab_E w (d + 1) mt_M_hasCables 4 [.ref mx, .int v1, .int v2, .int v3] [] (I, L, ab_RR, n, nc, ns) res := by
  refine ab_iload_n (i := 3) d_M_hasCables_4 rfl rfl ?_
  refine ab_aload_n (i := 0) d_M_hasCables_5 rfl rfl ?_
  refine ab_callV (me2 := mt_M_many) (b := mx) (as := []) (st := [.int v3]) (rv := (some (.int (I mx_now 0)))) (M2 := (I, L, ab_RR, n, nc, ns)) d_M_hasCables_6 ce_M_many v_1635 v_1637 v_79 (by decide) rfl (Nat.le_of_ble_eq_true rfl) (cx_M_many_0  hT (show (vp_in 0 399) from by unfold vp_in; decide)) (Nat.le_refl _) (Nat.le_refl _) hc hs (fun j h9 => by cases h9) (fun _ _ => rfl) ?_
  show ab_E w (d + 1) mt_M_hasCables 9 [.ref mx, .int v1, .int v2, .int v3] [.int (I mx_now 0), .int v3] (I, L, ab_RR, n, nc, ns) res
  refine ab_icmp_ge (tgt := 41) d_M_hasCables_9 (by decide) (fun c2 => ?_) (fun c2 => ?_)
  · have h := h.1 c2
    refine ab_iload_n (i := 2) d_M_hasCables_41 rfl rfl ?_
    have g3 := h.1; have h := h.2
    exact ab_iret (ty := .boolean) d_M_hasCables_42 rfl g3 h
  · have h := h.2 c2
    refine ab_iload_n (i := 2) d_M_hasCables_12 rfl rfl ?_
    refine ab_if_ne (tgt := 29) d_M_hasCables_13 (by decide) (fun c4 => ?_) (fun c4 => ?_)
    · have h := h.1 c4
      refine ab_iconst (v := 1) d_M_hasCables_29 rfl ?_
      refine ab_goto (tgt := 34) d_M_hasCables_30 (by decide) ?_
      refine ab_istore_n (i := 2) d_M_hasCables_34 rfl (by decide) (Or.inr rfl) ?_
      refine ab_iinc (i := 3) (v := (v3 + 1)) d_M_hasCables_35 rfl rfl (by decide) (Or.inr rfl) ?_
      refine ab_goto (tgt := 4) d_M_hasCables_38 (by decide) ?_
      exact h
    · have h := h.2 c4
      refine ab_aload_n (i := 0) d_M_hasCables_16 rfl rfl ?_
      refine ab_getR (ci := 11) (k := 4) (j := mx_now) d_M_hasCables_17 v_1372 rfl (by decide) (by decide) rfl r_mx_4 ?_
      refine ab_bipush (v := 75) d_M_hasCables_20 rfl ?_
      refine ab_iload_n (i := 3) d_M_hasCables_22 rfl rfl ?_
      refine ab_iadd d_M_hasCables_23 ?_
      have g5 := h.1; have h := h.2
      refine ab_iald d_M_hasCables_24 rfl rfl g5 ?_
      refine ab_iload_n (i := 1) d_M_hasCables_25 rfl rfl ?_
      refine ab_icmp_ne (tgt := 33) d_M_hasCables_26 (by decide) (fun c6 => ?_) (fun c6 => ?_)
      · have h := h.1 c6
        refine ab_iconst (v := 0) d_M_hasCables_33 rfl ?_
        refine ab_istore_n (i := 2) d_M_hasCables_34 rfl (by decide) (Or.inr rfl) ?_
        refine ab_iinc (i := 3) (v := (v3 + 1)) d_M_hasCables_35 rfl rfl (by decide) (Or.inr rfl) ?_
        refine ab_goto (tgt := 4) d_M_hasCables_38 (by decide) ?_
        exact h
      · have h := h.2 c6
        refine ab_iconst (v := 1) d_M_hasCables_29 rfl ?_
        refine ab_goto (tgt := 34) d_M_hasCables_30 (by decide) ?_
        refine ab_istore_n (i := 2) d_M_hasCables_34 rfl (by decide) (Or.inr rfl) ?_
        refine ab_iinc (i := 3) (v := (v3 + 1)) d_M_hasCables_35 rfl rfl (by decide) (Or.inr rfl) ?_
        refine ab_goto (tgt := 4) d_M_hasCables_38 (by decide) ?_
        exact h
