theorem r_M_aloneOf_0 {w : ab_Wd} {d n nc ns : Nat} {I : Nat → Nat → Int32} {L : Nat → Nat → Int64} {res : ab_Re} (hT : w.1.stackTraces = false) (v1 : Int32) (hc : nc ≤ res.2.2.2.2.2.1) (hs : ns ≤ res.2.2.2.2.2.2)
    (h : ab_E w (d + 2) mt_M_aloneOf 7 [.ref mx, .int v1, .int (-1), .int 0, .int 0] [] (I, L, ab_RR, n, nc, ns) res) : ab_E w (d + 2) mt_M_aloneOf 0 [.ref mx, .int v1, .null, .null, .null] [] (I, L, ab_RR, n, nc, ns) res := by
  refine ab_iconst (v := (-1)) d_M_aloneOf_0 rfl ?_
  refine ab_istore_n (i := 2) d_M_aloneOf_1 rfl (by decide) (Or.inr rfl) ?_
  refine ab_iconst (v := 0) d_M_aloneOf_2 rfl ?_
  refine ab_istore_n (i := 3) d_M_aloneOf_3 rfl (by decide) (Or.inr rfl) ?_
  refine ab_iconst (v := 0) d_M_aloneOf_4 rfl ?_
  refine ab_istore (i := 4) d_M_aloneOf_5 (by decide) (Or.inr rfl) ?_
  exact h
theorem r_M_aloneOf_7 {w : ab_Wd} {d n nc ns : Nat} {I : Nat → Nat → Int32} {L : Nat → Nat → Int64} {res : ab_Re} (hT : w.1.stackTraces = false) (v1 : Int32) (v2 : Int32) (v3 : Int32) (v4 : Int32) (hc : nc ≤ res.2.2.2.2.2.1) (hs : ns ≤ res.2.2.2.2.2.2)
    (h : (((I mx_now 0) ≤ v4 → ((¬ v2 = (-1) → (∃ (r4 : Int32) (I5 : Nat → Nat → Int32), ab_C w (d + 1) mt_M_lossOf [.ref mx, .int (v3 &&& (((1 : Int32) <<< (v2 &&& 31)) ^^^ (-1)))] (I, L, ab_RR, n, nc, ns) (.inl (some (.int r4)), (I5, L, ab_RR, n, nc, ns)) ∧ res = (.inl (some (.int r4)), (I5, L, ab_RR, n, nc, ns)))) ∧ (v2 = (-1) → (res = (.inl (some (.int (-1))), (I, L, ab_RR, n, nc, ns)))))) ∧ (¬ (I mx_now 0) ≤ v4 → (((((I mx_now 1) >>> (v4 &&& 31)) &&& 1) = 1 → ((vp_in (3 + v4) 399) ∧ (((I mx_now (3 + v4).toNatClampNeg) = v1 → ((vp_in (27 + v4) 399) ∧ ((¬ (I mx_now (27 + v4).toNatClampNeg) = (-1) → ((v2 = (-1) → (ab_E w (d + 2) mt_M_aloneOf 7 [.ref mx, .int v1, .int v4, .int (v3 ||| ((1 : Int32) <<< (v4 &&& 31))), .int (v4 + 1)] [] (I, L, ab_RR, n, nc, ns) res)) ∧ (¬ v2 = (-1) → ((vp_in (51 + v4) 399) ∧ (vp_in (51 + v2) 399) ∧ (((I mx_now (51 + v4).toNatClampNeg) < (I mx_now (51 + v2).toNatClampNeg) → (ab_E w (d + 2) mt_M_aloneOf 7 [.ref mx, .int v1, .int v4, .int (v3 ||| ((1 : Int32) <<< (v4 &&& 31))), .int (v4 + 1)] [] (I, L, ab_RR, n, nc, ns) res)) ∧ (¬ (I mx_now (51 + v4).toNatClampNeg) < (I mx_now (51 + v2).toNatClampNeg) → (((I mx_now (51 + v4).toNatClampNeg) = (I mx_now (51 + v2).toNatClampNeg) → ((v2 ≤ v4 → (ab_E w (d + 2) mt_M_aloneOf 7 [.ref mx, .int v1, .int v2, .int (v3 ||| ((1 : Int32) <<< (v4 &&& 31))), .int (v4 + 1)] [] (I, L, ab_RR, n, nc, ns) res)) ∧ (¬ v2 ≤ v4 → (ab_E w (d + 2) mt_M_aloneOf 7 [.ref mx, .int v1, .int v4, .int (v3 ||| ((1 : Int32) <<< (v4 &&& 31))), .int (v4 + 1)] [] (I, L, ab_RR, n, nc, ns) res)))) ∧ (¬ (I mx_now (51 + v4).toNatClampNeg) = (I mx_now (51 + v2).toNatClampNeg) → (ab_E w (d + 2) mt_M_aloneOf 7 [.ref mx, .int v1, .int v2, .int (v3 ||| ((1 : Int32) <<< (v4 &&& 31))), .int (v4 + 1)] [] (I, L, ab_RR, n, nc, ns) res))))))))) ∧ ((I mx_now (27 + v4).toNatClampNeg) = (-1) → (ab_E w (d + 2) mt_M_aloneOf 7 [.ref mx, .int v1, .int v2, .int v3, .int (v4 + 1)] [] (I, L, ab_RR, n, nc, ns) res))))) ∧ (¬ (I mx_now (3 + v4).toNatClampNeg) = v1 → ((vp_in (27 + v4) 399) ∧ (((I mx_now (27 + v4).toNatClampNeg) = v1 → ((¬ (I mx_now (3 + v4).toNatClampNeg) = (-1) → ((v2 = (-1) → (ab_E w (d + 2) mt_M_aloneOf 7 [.ref mx, .int v1, .int v4, .int (v3 ||| ((1 : Int32) <<< (v4 &&& 31))), .int (v4 + 1)] [] (I, L, ab_RR, n, nc, ns) res)) ∧ (¬ v2 = (-1) → ((vp_in (51 + v4) 399) ∧ (vp_in (51 + v2) 399) ∧ (((I mx_now (51 + v4).toNatClampNeg) < (I mx_now (51 + v2).toNatClampNeg) → (ab_E w (d + 2) mt_M_aloneOf 7 [.ref mx, .int v1, .int v4, .int (v3 ||| ((1 : Int32) <<< (v4 &&& 31))), .int (v4 + 1)] [] (I, L, ab_RR, n, nc, ns) res)) ∧ (¬ (I mx_now (51 + v4).toNatClampNeg) < (I mx_now (51 + v2).toNatClampNeg) → (((I mx_now (51 + v4).toNatClampNeg) = (I mx_now (51 + v2).toNatClampNeg) → ((v2 ≤ v4 → (ab_E w (d + 2) mt_M_aloneOf 7 [.ref mx, .int v1, .int v2, .int (v3 ||| ((1 : Int32) <<< (v4 &&& 31))), .int (v4 + 1)] [] (I, L, ab_RR, n, nc, ns) res)) ∧ (¬ v2 ≤ v4 → (ab_E w (d + 2) mt_M_aloneOf 7 [.ref mx, .int v1, .int v4, .int (v3 ||| ((1 : Int32) <<< (v4 &&& 31))), .int (v4 + 1)] [] (I, L, ab_RR, n, nc, ns) res)))) ∧ (¬ (I mx_now (51 + v4).toNatClampNeg) = (I mx_now (51 + v2).toNatClampNeg) → (ab_E w (d + 2) mt_M_aloneOf 7 [.ref mx, .int v1, .int v2, .int (v3 ||| ((1 : Int32) <<< (v4 &&& 31))), .int (v4 + 1)] [] (I, L, ab_RR, n, nc, ns) res))))))))) ∧ ((I mx_now (3 + v4).toNatClampNeg) = (-1) → (ab_E w (d + 2) mt_M_aloneOf 7 [.ref mx, .int v1, .int v2, .int v3, .int (v4 + 1)] [] (I, L, ab_RR, n, nc, ns) res)))) ∧ (¬ (I mx_now (27 + v4).toNatClampNeg) = v1 → (ab_E w (d + 2) mt_M_aloneOf 7 [.ref mx, .int v1, .int v2, .int v3, .int (v4 + 1)] [] (I, L, ab_RR, n, nc, ns) res)))))))) ∧ (¬ (((I mx_now 1) >>> (v4 &&& 31)) &&& 1) = 1 → (ab_E w (d + 2) mt_M_aloneOf 7 [.ref mx, .int v1, .int v2, .int v3, .int (v4 + 1)] [] (I, L, ab_RR, n, nc, ns) res)))))) : ab_E w (d + 2) mt_M_aloneOf 7 [.ref mx, .int v1, .int v2, .int v3, .int v4] [] (I, L, ab_RR, n, nc, ns) res := by
  refine ab_iload (i := 4) d_M_aloneOf_7 rfl ?_
  refine ab_aload_n (i := 0) d_M_aloneOf_9 rfl rfl ?_
  refine ab_callV (me2 := mt_M_many) (b := mx) (as := []) (st := [.int v4]) (rv := (some (.int (I mx_now 0)))) (M2 := (I, L, ab_RR, n, nc, ns)) d_M_aloneOf_10 ce_M_many v_1635 v_1637 v_79 (by decide) rfl (Nat.le_of_ble_eq_true rfl) (cx_M_many_0  hT (show (vp_in 0 399) from by unfold vp_in; decide)) (Nat.le_refl _) (Nat.le_refl _) hc hs (fun j h9 => by cases h9) (fun _ _ => rfl) ?_
  show ab_E w (d + 2) mt_M_aloneOf 13 [.ref mx, .int v1, .int v2, .int v3, .int v4] [.int (I mx_now 0), .int v4] (I, L, ab_RR, n, nc, ns) res
  refine ab_icmp_ge (tgt := 74) d_M_aloneOf_13 (by decide) (fun c2 => ?_) (fun c2 => ?_)
  · have h := h.1 c2
    refine ab_iload_n (i := 2) d_M_aloneOf_74 rfl rfl ?_
    refine ab_iconst (v := (-1)) d_M_aloneOf_75 rfl ?_
    refine ab_icmp_ne (tgt := 83) d_M_aloneOf_76 (by decide) (fun c3 => ?_) (fun c3 => ?_)
    · have h := h.1 c3
      refine ab_aload_n (i := 0) d_M_aloneOf_83 rfl rfl ?_
      refine ab_iload_n (i := 3) d_M_aloneOf_84 rfl rfl ?_
      refine ab_iconst (v := 1) d_M_aloneOf_85 rfl ?_
      refine ab_iload_n (i := 2) d_M_aloneOf_86 rfl rfl ?_
      refine ab_ishl d_M_aloneOf_87 ?_
      refine ab_iconst (v := (-1)) d_M_aloneOf_88 rfl ?_
      refine ab_ixor d_M_aloneOf_89 ?_
      refine ab_iand d_M_aloneOf_90 ?_
      obtain ⟨r4, I5, hC, h⟩ := h
      refine ab_callV (me2 := mt_M_lossOf) (b := mx) (as := [.int (v3 &&& (((1 : Int32) <<< (v2 &&& 31)) ^^^ (-1)))]) (st := []) (rv := (some (.int r4))) (M2 := (I5, L, ab_RR, n, nc, ns)) d_M_aloneOf_91 ce_M_lossOf v_1767 v_1769 v_109 (by decide) rfl (Nat.le_of_ble_eq_true rfl) hC (Nat.le_refl _) (Nat.le_refl _) hc hs (fun j h9 => by cases h9) (fun _ _ => rfl) ?_
      show ab_E w (d + 2) mt_M_aloneOf 94 [.ref mx, .int v1, .int v2, .int v3, .int v4] [.int r4] (I5, L, ab_RR, n, nc, ns) res
      exact ab_iret (ty := .int) d_M_aloneOf_94 rfl rfl h
    · have h := h.2 c3
      refine ab_iconst (v := (-1)) d_M_aloneOf_79 rfl ?_
      refine ab_goto (tgt := 94) d_M_aloneOf_80 (by decide) ?_
      exact ab_iret (ty := .int) d_M_aloneOf_94 rfl rfl h
  · have h := h.2 c2
    refine ab_aload_n (i := 0) d_M_aloneOf_16 rfl rfl ?_
    refine ab_iload (i := 4) d_M_aloneOf_17 rfl ?_
    by_cases c7 : (((I mx_now 1) >>> (v4 &&& 31)) &&& 1) = 1
    · have h := h.1 c7
      refine ab_callV (me2 := mt_M_isSound) (b := mx) (as := [.int v4]) (st := []) (rv := (some (.int 1))) (M2 := (I, L, ab_RR, n, nc, ns)) d_M_aloneOf_19 ce_M_isSound v_1679 v_1681 v_89 (by decide) rfl (Nat.le_of_ble_eq_true rfl) (cx_M_isSound_1 v4 hT (show (vp_in 1 399) from by unfold vp_in; decide) c7) (Nat.le_refl _) (Nat.le_refl _) hc hs (fun j h9 => by cases h9) (fun _ _ => rfl) ?_
      show ab_E w (d + 2) mt_M_aloneOf 22 [.ref mx, .int v1, .int v2, .int v3, .int v4] [.int 1] (I, L, ab_RR, n, nc, ns) res
      refine ab_if_eq (tgt := 68) d_M_aloneOf_22 (by decide) (fun c9 => absurd c9 (show ¬ (1 : Int32) = 0 from by decide)) (fun _ => ?_)
      refine ab_aload_n (i := 0) d_M_aloneOf_25 rfl rfl ?_
      refine ab_iload (i := 4) d_M_aloneOf_26 rfl ?_
      refine ab_iload_n (i := 1) d_M_aloneOf_28 rfl rfl ?_
      have g9 := h.1; have h := h.2
      by_cases c10 : (I mx_now (3 + v4).toNatClampNeg) = v1
      · have h := h.1 c10
        have g11 := h.1; have h := h.2
        refine ab_callV (me2 := mt_M_otherEnd) (b := mx) (as := [.int v4, .int v1]) (st := []) (rv := (some (.int (I mx_now (27 + v4).toNatClampNeg)))) (M2 := (I, L, ab_RR, n, nc, ns)) d_M_aloneOf_29 ce_M_otherEnd v_1691 v_1693 v_92 (by decide) rfl (Nat.le_of_ble_eq_true rfl) (cx_M_otherEnd_2 v4 v1 hT g9 c10 g11) (Nat.le_refl _) (Nat.le_refl _) hc hs (fun j h9 => by cases h9) (fun _ _ => rfl) ?_
        show ab_E w (d + 2) mt_M_aloneOf 32 [.ref mx, .int v1, .int v2, .int v3, .int v4] [.int (I mx_now (27 + v4).toNatClampNeg)] (I, L, ab_RR, n, nc, ns) res
        refine ab_iconst (v := (-1)) d_M_aloneOf_32 rfl ?_
        refine ab_icmp_ne (tgt := 39) d_M_aloneOf_33 (by decide) (fun c12 => ?_) (fun c12 => ?_)
        · have h := h.1 c12
          refine ab_iload_n (i := 3) d_M_aloneOf_39 rfl rfl ?_
          refine ab_iconst (v := 1) d_M_aloneOf_40 rfl ?_
          refine ab_iload (i := 4) d_M_aloneOf_41 rfl ?_
          refine ab_ishl d_M_aloneOf_43 ?_
          refine ab_ior d_M_aloneOf_44 ?_
          refine ab_istore_n (i := 3) d_M_aloneOf_45 rfl (by decide) (Or.inr rfl) ?_
          refine ab_iload_n (i := 2) d_M_aloneOf_46 rfl rfl ?_
          refine ab_iconst (v := (-1)) d_M_aloneOf_47 rfl ?_
          refine ab_icmp_eq (tgt := 61) d_M_aloneOf_48 (by decide) (fun c13 => ?_) (fun c13 => ?_)
          · have h := h.1 c13
            refine ab_iload (i := 4) d_M_aloneOf_61 rfl ?_
            refine ab_goto (tgt := 67) d_M_aloneOf_63 (by decide) ?_
            refine ab_istore_n (i := 2) d_M_aloneOf_67 rfl (by decide) (Or.inr rfl) ?_
            refine ab_iinc (i := 4) (v := (v4 + 1)) d_M_aloneOf_68 rfl rfl (by decide) (Or.inr rfl) ?_
            refine ab_goto (tgt := 7) d_M_aloneOf_71 (by decide) ?_
            exact h
          · have h := h.2 c13
            refine ab_aload_n (i := 0) d_M_aloneOf_51 rfl rfl ?_
            refine ab_iload (i := 4) d_M_aloneOf_52 rfl ?_
            refine ab_iload_n (i := 2) d_M_aloneOf_54 rfl rfl ?_
            have g15 := h.1; have h := h.2
            have g16 := h.1; have h := h.2
            by_cases c17 : (I mx_now (51 + v4).toNatClampNeg) < (I mx_now (51 + v2).toNatClampNeg)
            · have h := h.1 c17
              refine ab_callV (me2 := mt_M_isCheaper) (b := mx) (as := [.int v4, .int v2]) (st := []) (rv := (some (.int 1))) (M2 := (I, L, ab_RR, n, nc, ns)) d_M_aloneOf_55 ce_M_isCheaper v_1650 v_1652 v_82 (by decide) rfl (Nat.le_of_ble_eq_true rfl) (cx_M_isCheaper_0 v4 v2 hT g15 g16 c17) (Nat.le_refl _) (Nat.le_refl _) hc hs (fun j h9 => by cases h9) (fun _ _ => rfl) ?_
              show ab_E w (d + 2) mt_M_aloneOf 58 [.ref mx, .int v1, .int v2, .int (v3 ||| ((1 : Int32) <<< (v4 &&& 31))), .int v4] [.int 1] (I, L, ab_RR, n, nc, ns) res
              refine ab_if_eq (tgt := 66) d_M_aloneOf_58 (by decide) (fun c9 => absurd c9 (show ¬ (1 : Int32) = 0 from by decide)) (fun _ => ?_)
              refine ab_iload (i := 4) d_M_aloneOf_61 rfl ?_
              refine ab_goto (tgt := 67) d_M_aloneOf_63 (by decide) ?_
              refine ab_istore_n (i := 2) d_M_aloneOf_67 rfl (by decide) (Or.inr rfl) ?_
              refine ab_iinc (i := 4) (v := (v4 + 1)) d_M_aloneOf_68 rfl rfl (by decide) (Or.inr rfl) ?_
              refine ab_goto (tgt := 7) d_M_aloneOf_71 (by decide) ?_
              exact h
            · have h := h.2 c17
              by_cases c18 : (I mx_now (51 + v4).toNatClampNeg) = (I mx_now (51 + v2).toNatClampNeg)
              · have h := h.1 c18
                by_cases c19 : v2 ≤ v4
                · have h := h.1 c19
                  refine ab_callV (me2 := mt_M_isCheaper) (b := mx) (as := [.int v4, .int v2]) (st := []) (rv := (some (.int 0))) (M2 := (I, L, ab_RR, n, nc, ns)) d_M_aloneOf_55 ce_M_isCheaper v_1650 v_1652 v_82 (by decide) rfl (Nat.le_of_ble_eq_true rfl) (cx_M_isCheaper_2 v4 v2 hT g15 g16 c17 g15 g16 c18 c19) (Nat.le_refl _) (Nat.le_refl _) hc hs (fun j h9 => by cases h9) (fun _ _ => rfl) ?_
                  show ab_E w (d + 2) mt_M_aloneOf 58 [.ref mx, .int v1, .int v2, .int (v3 ||| ((1 : Int32) <<< (v4 &&& 31))), .int v4] [.int 0] (I, L, ab_RR, n, nc, ns) res
                  refine ab_if_eq (tgt := 66) d_M_aloneOf_58 (by decide) (fun _ => ?_) (fun c9 => absurd (show (0 : Int32) = 0 from by decide) c9)
                  refine ab_iload_n (i := 2) d_M_aloneOf_66 rfl rfl ?_
                  refine ab_istore_n (i := 2) d_M_aloneOf_67 rfl (by decide) (Or.inr rfl) ?_
                  refine ab_iinc (i := 4) (v := (v4 + 1)) d_M_aloneOf_68 rfl rfl (by decide) (Or.inr rfl) ?_
                  refine ab_goto (tgt := 7) d_M_aloneOf_71 (by decide) ?_
                  exact h
                · have h := h.2 c19
                  refine ab_callV (me2 := mt_M_isCheaper) (b := mx) (as := [.int v4, .int v2]) (st := []) (rv := (some (.int 1))) (M2 := (I, L, ab_RR, n, nc, ns)) d_M_aloneOf_55 ce_M_isCheaper v_1650 v_1652 v_82 (by decide) rfl (Nat.le_of_ble_eq_true rfl) (cx_M_isCheaper_3 v4 v2 hT g15 g16 c17 g15 g16 c18 c19) (Nat.le_refl _) (Nat.le_refl _) hc hs (fun j h9 => by cases h9) (fun _ _ => rfl) ?_
                  show ab_E w (d + 2) mt_M_aloneOf 58 [.ref mx, .int v1, .int v2, .int (v3 ||| ((1 : Int32) <<< (v4 &&& 31))), .int v4] [.int 1] (I, L, ab_RR, n, nc, ns) res
                  refine ab_if_eq (tgt := 66) d_M_aloneOf_58 (by decide) (fun c9 => absurd c9 (show ¬ (1 : Int32) = 0 from by decide)) (fun _ => ?_)
                  refine ab_iload (i := 4) d_M_aloneOf_61 rfl ?_
                  refine ab_goto (tgt := 67) d_M_aloneOf_63 (by decide) ?_
                  refine ab_istore_n (i := 2) d_M_aloneOf_67 rfl (by decide) (Or.inr rfl) ?_
                  refine ab_iinc (i := 4) (v := (v4 + 1)) d_M_aloneOf_68 rfl rfl (by decide) (Or.inr rfl) ?_
                  refine ab_goto (tgt := 7) d_M_aloneOf_71 (by decide) ?_
                  exact h
              · have h := h.2 c18
                refine ab_callV (me2 := mt_M_isCheaper) (b := mx) (as := [.int v4, .int v2]) (st := []) (rv := (some (.int 0))) (M2 := (I, L, ab_RR, n, nc, ns)) d_M_aloneOf_55 ce_M_isCheaper v_1650 v_1652 v_82 (by decide) rfl (Nat.le_of_ble_eq_true rfl) (cx_M_isCheaper_1 v4 v2 hT g15 g16 c17 g15 g16 c18) (Nat.le_refl _) (Nat.le_refl _) hc hs (fun j h9 => by cases h9) (fun _ _ => rfl) ?_
                show ab_E w (d + 2) mt_M_aloneOf 58 [.ref mx, .int v1, .int v2, .int (v3 ||| ((1 : Int32) <<< (v4 &&& 31))), .int v4] [.int 0] (I, L, ab_RR, n, nc, ns) res
                refine ab_if_eq (tgt := 66) d_M_aloneOf_58 (by decide) (fun _ => ?_) (fun c9 => absurd (show (0 : Int32) = 0 from by decide) c9)
                refine ab_iload_n (i := 2) d_M_aloneOf_66 rfl rfl ?_
                refine ab_istore_n (i := 2) d_M_aloneOf_67 rfl (by decide) (Or.inr rfl) ?_
                refine ab_iinc (i := 4) (v := (v4 + 1)) d_M_aloneOf_68 rfl rfl (by decide) (Or.inr rfl) ?_
                refine ab_goto (tgt := 7) d_M_aloneOf_71 (by decide) ?_
                exact h
        · have h := h.2 c12
          refine ab_goto (tgt := 68) d_M_aloneOf_36 (by decide) ?_
          refine ab_iinc (i := 4) (v := (v4 + 1)) d_M_aloneOf_68 rfl rfl (by decide) (Or.inr rfl) ?_
          refine ab_goto (tgt := 7) d_M_aloneOf_71 (by decide) ?_
          exact h
      · have h := h.2 c10
        have g20 := h.1; have h := h.2
        by_cases c21 : (I mx_now (27 + v4).toNatClampNeg) = v1
        · have h := h.1 c21
          refine ab_callV (me2 := mt_M_otherEnd) (b := mx) (as := [.int v4, .int v1]) (st := []) (rv := (some (.int (I mx_now (3 + v4).toNatClampNeg)))) (M2 := (I, L, ab_RR, n, nc, ns)) d_M_aloneOf_29 ce_M_otherEnd v_1691 v_1693 v_92 (by decide) rfl (Nat.le_of_ble_eq_true rfl) (cx_M_otherEnd_1 v4 v1 hT g9 c10 g20 c21 g9) (Nat.le_refl _) (Nat.le_refl _) hc hs (fun j h9 => by cases h9) (fun _ _ => rfl) ?_
          show ab_E w (d + 2) mt_M_aloneOf 32 [.ref mx, .int v1, .int v2, .int v3, .int v4] [.int (I mx_now (3 + v4).toNatClampNeg)] (I, L, ab_RR, n, nc, ns) res
          refine ab_iconst (v := (-1)) d_M_aloneOf_32 rfl ?_
          refine ab_icmp_ne (tgt := 39) d_M_aloneOf_33 (by decide) (fun c22 => ?_) (fun c22 => ?_)
          · have h := h.1 c22
            refine ab_iload_n (i := 3) d_M_aloneOf_39 rfl rfl ?_
            refine ab_iconst (v := 1) d_M_aloneOf_40 rfl ?_
            refine ab_iload (i := 4) d_M_aloneOf_41 rfl ?_
            refine ab_ishl d_M_aloneOf_43 ?_
            refine ab_ior d_M_aloneOf_44 ?_
            refine ab_istore_n (i := 3) d_M_aloneOf_45 rfl (by decide) (Or.inr rfl) ?_
            refine ab_iload_n (i := 2) d_M_aloneOf_46 rfl rfl ?_
            refine ab_iconst (v := (-1)) d_M_aloneOf_47 rfl ?_
            refine ab_icmp_eq (tgt := 61) d_M_aloneOf_48 (by decide) (fun c23 => ?_) (fun c23 => ?_)
            · have h := h.1 c23
              refine ab_iload (i := 4) d_M_aloneOf_61 rfl ?_
              refine ab_goto (tgt := 67) d_M_aloneOf_63 (by decide) ?_
              refine ab_istore_n (i := 2) d_M_aloneOf_67 rfl (by decide) (Or.inr rfl) ?_
              refine ab_iinc (i := 4) (v := (v4 + 1)) d_M_aloneOf_68 rfl rfl (by decide) (Or.inr rfl) ?_
              refine ab_goto (tgt := 7) d_M_aloneOf_71 (by decide) ?_
              exact h
            · have h := h.2 c23
              refine ab_aload_n (i := 0) d_M_aloneOf_51 rfl rfl ?_
              refine ab_iload (i := 4) d_M_aloneOf_52 rfl ?_
              refine ab_iload_n (i := 2) d_M_aloneOf_54 rfl rfl ?_
              have g25 := h.1; have h := h.2
              have g26 := h.1; have h := h.2
              by_cases c27 : (I mx_now (51 + v4).toNatClampNeg) < (I mx_now (51 + v2).toNatClampNeg)
              · have h := h.1 c27
                refine ab_callV (me2 := mt_M_isCheaper) (b := mx) (as := [.int v4, .int v2]) (st := []) (rv := (some (.int 1))) (M2 := (I, L, ab_RR, n, nc, ns)) d_M_aloneOf_55 ce_M_isCheaper v_1650 v_1652 v_82 (by decide) rfl (Nat.le_of_ble_eq_true rfl) (cx_M_isCheaper_0 v4 v2 hT g25 g26 c27) (Nat.le_refl _) (Nat.le_refl _) hc hs (fun j h9 => by cases h9) (fun _ _ => rfl) ?_
                show ab_E w (d + 2) mt_M_aloneOf 58 [.ref mx, .int v1, .int v2, .int (v3 ||| ((1 : Int32) <<< (v4 &&& 31))), .int v4] [.int 1] (I, L, ab_RR, n, nc, ns) res
                refine ab_if_eq (tgt := 66) d_M_aloneOf_58 (by decide) (fun c9 => absurd c9 (show ¬ (1 : Int32) = 0 from by decide)) (fun _ => ?_)
                refine ab_iload (i := 4) d_M_aloneOf_61 rfl ?_
                refine ab_goto (tgt := 67) d_M_aloneOf_63 (by decide) ?_
                refine ab_istore_n (i := 2) d_M_aloneOf_67 rfl (by decide) (Or.inr rfl) ?_
                refine ab_iinc (i := 4) (v := (v4 + 1)) d_M_aloneOf_68 rfl rfl (by decide) (Or.inr rfl) ?_
                refine ab_goto (tgt := 7) d_M_aloneOf_71 (by decide) ?_
                exact h
              · have h := h.2 c27
                by_cases c28 : (I mx_now (51 + v4).toNatClampNeg) = (I mx_now (51 + v2).toNatClampNeg)
                · have h := h.1 c28
                  by_cases c29 : v2 ≤ v4
                  · have h := h.1 c29
                    refine ab_callV (me2 := mt_M_isCheaper) (b := mx) (as := [.int v4, .int v2]) (st := []) (rv := (some (.int 0))) (M2 := (I, L, ab_RR, n, nc, ns)) d_M_aloneOf_55 ce_M_isCheaper v_1650 v_1652 v_82 (by decide) rfl (Nat.le_of_ble_eq_true rfl) (cx_M_isCheaper_2 v4 v2 hT g25 g26 c27 g25 g26 c28 c29) (Nat.le_refl _) (Nat.le_refl _) hc hs (fun j h9 => by cases h9) (fun _ _ => rfl) ?_
                    show ab_E w (d + 2) mt_M_aloneOf 58 [.ref mx, .int v1, .int v2, .int (v3 ||| ((1 : Int32) <<< (v4 &&& 31))), .int v4] [.int 0] (I, L, ab_RR, n, nc, ns) res
                    refine ab_if_eq (tgt := 66) d_M_aloneOf_58 (by decide) (fun _ => ?_) (fun c9 => absurd (show (0 : Int32) = 0 from by decide) c9)
                    refine ab_iload_n (i := 2) d_M_aloneOf_66 rfl rfl ?_
                    refine ab_istore_n (i := 2) d_M_aloneOf_67 rfl (by decide) (Or.inr rfl) ?_
                    refine ab_iinc (i := 4) (v := (v4 + 1)) d_M_aloneOf_68 rfl rfl (by decide) (Or.inr rfl) ?_
                    refine ab_goto (tgt := 7) d_M_aloneOf_71 (by decide) ?_
                    exact h
                  · have h := h.2 c29
                    refine ab_callV (me2 := mt_M_isCheaper) (b := mx) (as := [.int v4, .int v2]) (st := []) (rv := (some (.int 1))) (M2 := (I, L, ab_RR, n, nc, ns)) d_M_aloneOf_55 ce_M_isCheaper v_1650 v_1652 v_82 (by decide) rfl (Nat.le_of_ble_eq_true rfl) (cx_M_isCheaper_3 v4 v2 hT g25 g26 c27 g25 g26 c28 c29) (Nat.le_refl _) (Nat.le_refl _) hc hs (fun j h9 => by cases h9) (fun _ _ => rfl) ?_
                    show ab_E w (d + 2) mt_M_aloneOf 58 [.ref mx, .int v1, .int v2, .int (v3 ||| ((1 : Int32) <<< (v4 &&& 31))), .int v4] [.int 1] (I, L, ab_RR, n, nc, ns) res
                    refine ab_if_eq (tgt := 66) d_M_aloneOf_58 (by decide) (fun c9 => absurd c9 (show ¬ (1 : Int32) = 0 from by decide)) (fun _ => ?_)
                    refine ab_iload (i := 4) d_M_aloneOf_61 rfl ?_
                    refine ab_goto (tgt := 67) d_M_aloneOf_63 (by decide) ?_
                    refine ab_istore_n (i := 2) d_M_aloneOf_67 rfl (by decide) (Or.inr rfl) ?_
                    refine ab_iinc (i := 4) (v := (v4 + 1)) d_M_aloneOf_68 rfl rfl (by decide) (Or.inr rfl) ?_
                    refine ab_goto (tgt := 7) d_M_aloneOf_71 (by decide) ?_
                    exact h
                · have h := h.2 c28
                  refine ab_callV (me2 := mt_M_isCheaper) (b := mx) (as := [.int v4, .int v2]) (st := []) (rv := (some (.int 0))) (M2 := (I, L, ab_RR, n, nc, ns)) d_M_aloneOf_55 ce_M_isCheaper v_1650 v_1652 v_82 (by decide) rfl (Nat.le_of_ble_eq_true rfl) (cx_M_isCheaper_1 v4 v2 hT g25 g26 c27 g25 g26 c28) (Nat.le_refl _) (Nat.le_refl _) hc hs (fun j h9 => by cases h9) (fun _ _ => rfl) ?_
                  show ab_E w (d + 2) mt_M_aloneOf 58 [.ref mx, .int v1, .int v2, .int (v3 ||| ((1 : Int32) <<< (v4 &&& 31))), .int v4] [.int 0] (I, L, ab_RR, n, nc, ns) res
                  refine ab_if_eq (tgt := 66) d_M_aloneOf_58 (by decide) (fun _ => ?_) (fun c9 => absurd (show (0 : Int32) = 0 from by decide) c9)
                  refine ab_iload_n (i := 2) d_M_aloneOf_66 rfl rfl ?_
                  refine ab_istore_n (i := 2) d_M_aloneOf_67 rfl (by decide) (Or.inr rfl) ?_
                  refine ab_iinc (i := 4) (v := (v4 + 1)) d_M_aloneOf_68 rfl rfl (by decide) (Or.inr rfl) ?_
                  refine ab_goto (tgt := 7) d_M_aloneOf_71 (by decide) ?_
                  exact h
          · have h := h.2 c22
            refine ab_goto (tgt := 68) d_M_aloneOf_36 (by decide) ?_
            refine ab_iinc (i := 4) (v := (v4 + 1)) d_M_aloneOf_68 rfl rfl (by decide) (Or.inr rfl) ?_
            refine ab_goto (tgt := 7) d_M_aloneOf_71 (by decide) ?_
            exact h
        · have h := h.2 c21
          refine ab_callV (me2 := mt_M_otherEnd) (b := mx) (as := [.int v4, .int v1]) (st := []) (rv := (some (.int (-1)))) (M2 := (I, L, ab_RR, n, nc, ns)) d_M_aloneOf_29 ce_M_otherEnd v_1691 v_1693 v_92 (by decide) rfl (Nat.le_of_ble_eq_true rfl) (cx_M_otherEnd_0 v4 v1 hT g9 c10 g20 c21) (Nat.le_refl _) (Nat.le_refl _) hc hs (fun j h9 => by cases h9) (fun _ _ => rfl) ?_
          show ab_E w (d + 2) mt_M_aloneOf 32 [.ref mx, .int v1, .int v2, .int v3, .int v4] [.int (-1)] (I, L, ab_RR, n, nc, ns) res
          refine ab_iconst (v := (-1)) d_M_aloneOf_32 rfl ?_
          refine ab_icmp_ne (tgt := 39) d_M_aloneOf_33 (by decide) (fun c9 => absurd (show ((-1) : Int32) = (-1) from by decide) c9) (fun _ => ?_)
          refine ab_goto (tgt := 68) d_M_aloneOf_36 (by decide) ?_
          refine ab_iinc (i := 4) (v := (v4 + 1)) d_M_aloneOf_68 rfl rfl (by decide) (Or.inr rfl) ?_
          refine ab_goto (tgt := 7) d_M_aloneOf_71 (by decide) ?_
          exact h
    · have h := h.2 c7
      refine ab_callV (me2 := mt_M_isSound) (b := mx) (as := [.int v4]) (st := []) (rv := (some (.int 0))) (M2 := (I, L, ab_RR, n, nc, ns)) d_M_aloneOf_19 ce_M_isSound v_1679 v_1681 v_89 (by decide) rfl (Nat.le_of_ble_eq_true rfl) (cx_M_isSound_0 v4 hT (show (vp_in 1 399) from by unfold vp_in; decide) c7) (Nat.le_refl _) (Nat.le_refl _) hc hs (fun j h9 => by cases h9) (fun _ _ => rfl) ?_
      show ab_E w (d + 2) mt_M_aloneOf 22 [.ref mx, .int v1, .int v2, .int v3, .int v4] [.int 0] (I, L, ab_RR, n, nc, ns) res
      refine ab_if_eq (tgt := 68) d_M_aloneOf_22 (by decide) (fun _ => ?_) (fun c9 => absurd (show (0 : Int32) = 0 from by decide) c9)
      refine ab_iinc (i := 4) (v := (v4 + 1)) d_M_aloneOf_68 rfl rfl (by decide) (Or.inr rfl) ?_
      refine ab_goto (tgt := 7) d_M_aloneOf_71 (by decide) ?_
      exact h
theorem r_M_isApart_0 {w : ab_Wd} {d n nc ns : Nat} {I : Nat → Nat → Int32} {L : Nat → Nat → Int64} {res : ab_Re} (hT : w.1.stackTraces = false) (v1 : Int32) (v2 : Int32) (hc : nc ≤ res.2.2.2.2.2.1) (hs : ns ≤ res.2.2.2.2.2.2)
    (h : ∃ (r1 : Int32) (I2 : Nat → Nat → Int32), ab_C w d mt_M_netOf [.ref mx, .int ((I mx_now 1) &&& (v1 ^^^ (-1)))] (I, L, ab_RR, n, nc, ns) (.inl (some (.int r1)), (I2, L, ab_RR, n, nc, ns)) ∧ ((((I2 mx 2) - (I2 mx 21)) ≤ v2 → (res = (.inl (some (.int 0)), (I2, L, ab_RR, n, nc, ns)))) ∧ (¬ ((I2 mx 2) - (I2 mx 21)) ≤ v2 → (res = (.inl (some (.int 1)), (I2, L, ab_RR, n, nc, ns)))))) : ab_E w (d + 1) mt_M_isApart 0 [.ref mx, .int v1, .int v2, .null] [] (I, L, ab_RR, n, nc, ns) res := by
  refine ab_aload_n (i := 0) d_M_isApart_0 rfl rfl ?_
  refine ab_aload_n (i := 0) d_M_isApart_1 rfl rfl ?_
  refine ab_getR (ci := 11) (k := 4) (j := mx_now) d_M_isApart_2 v_1372 rfl (by decide) (by decide) rfl r_mx_4 ?_
  refine ab_iconst (v := 1) d_M_isApart_5 rfl ?_
  refine ab_iald d_M_isApart_6 rfl rfl (by unfold vp_in; decide) ?_
  refine ab_iload_n (i := 1) d_M_isApart_7 rfl rfl ?_
  refine ab_iconst (v := (-1)) d_M_isApart_8 rfl ?_
  refine ab_ixor d_M_isApart_9 ?_
  refine ab_iand d_M_isApart_10 ?_
  obtain ⟨r1, I2, hC, h⟩ := h
  refine ab_callV (me2 := mt_M_netOf) (b := mx) (as := [.int ((I mx_now 1) &&& (v1 ^^^ (-1)))]) (st := []) (rv := (some (.int r1))) (M2 := (I2, L, ab_RR, n, nc, ns)) d_M_isApart_11 ce_M_netOf v_1643 v_1645 v_81 (by decide) rfl (Nat.le_of_ble_eq_true rfl) hC (Nat.le_refl _) (Nat.le_refl _) hc hs (fun j h9 => by cases h9) (fun _ _ => rfl) ?_
  show ab_E w (d + 1) mt_M_isApart 14 [.ref mx, .int v1, .int v2, .null] [.int r1] (I2, L, ab_RR, n, nc, ns) res
  refine ab_istore_n (i := 3) d_M_isApart_14 rfl (by decide) (Or.inr rfl) ?_
  refine ab_aload_n (i := 0) d_M_isApart_15 rfl rfl ?_
  refine ab_callV (me2 := mt_M_pieces) (b := mx) (as := []) (st := []) (rv := (some (.int ((I2 mx 2) - (I2 mx 21))))) (M2 := (I2, L, ab_RR, n, nc, ns)) d_M_isApart_16 ce_M_pieces v_1671 v_1673 v_87 (by decide) rfl (Nat.le_of_ble_eq_true rfl) (cx_M_pieces_0  hT) (Nat.le_refl _) (Nat.le_refl _) hc hs (fun j h9 => by cases h9) (fun _ _ => rfl) ?_
  show ab_E w (d + 1) mt_M_isApart 19 [.ref mx, .int v1, .int v2, .int r1] [.int ((I2 mx 2) - (I2 mx 21))] (I2, L, ab_RR, n, nc, ns) res
  refine ab_iload_n (i := 2) d_M_isApart_19 rfl rfl ?_
  refine ab_icmp_le (tgt := 27) d_M_isApart_20 (by decide) (fun c4 => ?_) (fun c4 => ?_)
  · have h := h.1 c4
    refine ab_iconst (v := 0) d_M_isApart_27 rfl ?_
    exact ab_iret (ty := .boolean) d_M_isApart_28 rfl rfl h
  · have h := h.2 c4
    refine ab_iconst (v := 1) d_M_isApart_23 rfl ?_
    refine ab_goto (tgt := 28) d_M_isApart_24 (by decide) ?_
    exact ab_iret (ty := .boolean) d_M_isApart_28 rfl rfl h
theorem r_M_tellWeak_0 {w : ab_Wd} {d n nc ns : Nat} {I : Nat → Nat → Int32} {L : Nat → Nat → Int64} {res : ab_Re} (hT : w.1.stackTraces = false)  (hc : nc ≤ res.2.2.2.2.2.1) (hs : ns ≤ res.2.2.2.2.2.2)
    (h : ∃ (r1 : Int32) (I2 : Nat → Nat → Int32), ab_C w d mt_M_piecesNow [.ref mx] (I, L, ab_RR, n, nc, ns) (.inl (some (.int r1)), (I2, L, ab_RR, n, nc, ns)) ∧ ab_E w (d + 1) mt_M_tellWeak 17 [.ref mx, .int r1, .int 0, .null] [] ((ab_up (ab_up I2 mx 31 0) mx 32 (-1)), L, ab_RR, n, nc, ns) res) : ab_E w (d + 1) mt_M_tellWeak 0 [.ref mx, .null, .null, .null] [] (I, L, ab_RR, n, nc, ns) res := by
  refine ab_aload_n (i := 0) d_M_tellWeak_0 rfl rfl ?_
  obtain ⟨r1, I2, hC, h⟩ := h
  refine ab_callV (me2 := mt_M_piecesNow) (b := mx) (as := []) (st := []) (rv := (some (.int r1))) (M2 := (I2, L, ab_RR, n, nc, ns)) d_M_tellWeak_1 ce_M_piecesNow v_1667 v_1669 v_86 (by decide) rfl (Nat.le_of_ble_eq_true rfl) hC (Nat.le_refl _) (Nat.le_refl _) hc hs (fun j h9 => by cases h9) (fun _ _ => rfl) ?_
  show ab_E w (d + 1) mt_M_tellWeak 4 [.ref mx, .null, .null, .null] [.int r1] (I2, L, ab_RR, n, nc, ns) res
  refine ab_istore_n (i := 1) d_M_tellWeak_4 rfl (by decide) (Or.inr rfl) ?_
  refine ab_aload_n (i := 0) d_M_tellWeak_5 rfl rfl ?_
  refine ab_iconst (v := 0) d_M_tellWeak_6 rfl ?_
  refine ab_putI (ci := 11) (k := 31) d_M_tellWeak_7 v_1399 rfl (by decide) (by decide) rfl (Or.inl rfl) rfl rfl ?_
  refine ab_aload_n (i := 0) d_M_tellWeak_10 rfl rfl ?_
  refine ab_iconst (v := (-1)) d_M_tellWeak_11 rfl ?_
  refine ab_putI (ci := 11) (k := 32) d_M_tellWeak_12 v_1400 rfl (by decide) (by decide) rfl (Or.inl rfl) rfl rfl ?_
  refine ab_iconst (v := 0) d_M_tellWeak_15 rfl ?_
  refine ab_istore_n (i := 2) d_M_tellWeak_16 rfl (by decide) (Or.inr rfl) ?_
  exact h
theorem r_M_tellWeak_17 {w : ab_Wd} {d n nc ns : Nat} {I : Nat → Nat → Int32} {L : Nat → Nat → Int64} {res : ab_Re} (hT : w.1.stackTraces = false) (v1 : Int32) (v2 : Int32) (hc : nc ≤ res.2.2.2.2.2.1) (hs : ns ≤ res.2.2.2.2.2.2)
    (h : (((I mx_now 0) ≤ v2 → (res = (.inl none, (I, L, ab_RR, n, nc, ns)))) ∧ (¬ (I mx_now 0) ≤ v2 → (((((I mx_now 1) >>> (v2 &&& 31)) &&& 1) = 1 → (∃ (r5 : Int32) (I6 : Nat → Nat → Int32), ab_C w d mt_M_isApart [.ref mx, .int ((1 : Int32) <<< (v2 &&& 31)), .int v1] (I, L, ab_RR, n, nc, ns) (.inl (some (.int r5)), (I6, L, ab_RR, n, nc, ns)) ∧ ((r5 = 0 → (ab_E w (d + 1) mt_M_tellWeak 51 [.ref mx, .int v1, .int v2, .int (v2 + 1)] [] (I6, L, ab_RR, n, nc, ns) res)) ∧ (¬ r5 = 0 → (ab_E w (d + 1) mt_M_tellWeak 17 [.ref mx, .int v1, .int (v2 + 1), .null] [] (I6, L, ab_RR, n, nc, ns) res))))) ∧ (¬ (((I mx_now 1) >>> (v2 &&& 31)) &&& 1) = 1 → (ab_E w (d + 1) mt_M_tellWeak 17 [.ref mx, .int v1, .int (v2 + 1), .null] [] (I, L, ab_RR, n, nc, ns) res)))))) : ab_E w (d + 1) mt_M_tellWeak 17 [.ref mx, .int v1, .int v2, .null] [] (I, L, ab_RR, n, nc, ns) res := by
  refine ab_iload_n (i := 2) d_M_tellWeak_17 rfl rfl ?_
  refine ab_aload_n (i := 0) d_M_tellWeak_18 rfl rfl ?_
  refine ab_callV (me2 := mt_M_many) (b := mx) (as := []) (st := [.int v2]) (rv := (some (.int (I mx_now 0)))) (M2 := (I, L, ab_RR, n, nc, ns)) d_M_tellWeak_19 ce_M_many v_1635 v_1637 v_79 (by decide) rfl (Nat.le_of_ble_eq_true rfl) (cx_M_many_0  hT (show (vp_in 0 399) from by unfold vp_in; decide)) (Nat.le_refl _) (Nat.le_refl _) hc hs (fun j h9 => by cases h9) (fun _ _ => rfl) ?_
  show ab_E w (d + 1) mt_M_tellWeak 22 [.ref mx, .int v1, .int v2, .null] [.int (I mx_now 0), .int v2] (I, L, ab_RR, n, nc, ns) res
  refine ab_icmp_ge (tgt := 143) d_M_tellWeak_22 (by decide) (fun c2 => ?_) (fun c2 => ?_)
  · have h := h.1 c2
    exact ab_vret d_M_tellWeak_143 rfl h
  · have h := h.2 c2
    refine ab_aload_n (i := 0) d_M_tellWeak_25 rfl rfl ?_
    refine ab_iload_n (i := 2) d_M_tellWeak_26 rfl rfl ?_
    by_cases c4 : (((I mx_now 1) >>> (v2 &&& 31)) &&& 1) = 1
    · have h := h.1 c4
      refine ab_callV (me2 := mt_M_isSound) (b := mx) (as := [.int v2]) (st := []) (rv := (some (.int 1))) (M2 := (I, L, ab_RR, n, nc, ns)) d_M_tellWeak_27 ce_M_isSound v_1679 v_1681 v_89 (by decide) rfl (Nat.le_of_ble_eq_true rfl) (cx_M_isSound_1 v2 hT (show (vp_in 1 399) from by unfold vp_in; decide) c4) (Nat.le_refl _) (Nat.le_refl _) hc hs (fun j h9 => by cases h9) (fun _ _ => rfl) ?_
      show ab_E w (d + 1) mt_M_tellWeak 30 [.ref mx, .int v1, .int v2, .null] [.int 1] (I, L, ab_RR, n, nc, ns) res
      refine ab_if_eq (tgt := 137) d_M_tellWeak_30 (by decide) (fun c9 => absurd c9 (show ¬ (1 : Int32) = 0 from by decide)) (fun _ => ?_)
      refine ab_aload_n (i := 0) d_M_tellWeak_33 rfl rfl ?_
      refine ab_iconst (v := 1) d_M_tellWeak_34 rfl ?_
      refine ab_iload_n (i := 2) d_M_tellWeak_35 rfl rfl ?_
      refine ab_ishl d_M_tellWeak_36 ?_
      refine ab_iload_n (i := 1) d_M_tellWeak_37 rfl rfl ?_
      obtain ⟨r5, I6, hC, h⟩ := h
      refine ab_callV (me2 := mt_M_isApart) (b := mx) (as := [.int ((1 : Int32) <<< (v2 &&& 31)), .int v1]) (st := []) (rv := (some (.int r5))) (M2 := (I6, L, ab_RR, n, nc, ns)) d_M_tellWeak_38 ce_M_isApart v_1723 v_1725 v_100 (by decide) rfl (Nat.le_of_ble_eq_true rfl) hC (Nat.le_refl _) (Nat.le_refl _) hc hs (fun j h9 => by cases h9) (fun _ _ => rfl) ?_
      show ab_E w (d + 1) mt_M_tellWeak 41 [.ref mx, .int v1, .int v2, .null] [.int r5] (I6, L, ab_RR, n, nc, ns) res
      refine ab_if_eq (tgt := 47) d_M_tellWeak_41 (by decide) (fun c7 => ?_) (fun c7 => ?_)
      · have h := h.1 c7
        refine ab_iload_n (i := 2) d_M_tellWeak_47 rfl rfl ?_
        refine ab_iconst (v := 1) d_M_tellWeak_48 rfl ?_
        refine ab_iadd d_M_tellWeak_49 ?_
        refine ab_istore_n (i := 3) d_M_tellWeak_50 rfl (by decide) (Or.inr rfl) ?_
        exact h
      · have h := h.2 c7
        refine ab_goto (tgt := 137) d_M_tellWeak_44 (by decide) ?_
        refine ab_iinc (i := 2) (v := (v2 + 1)) d_M_tellWeak_137 rfl rfl (by decide) (Or.inr rfl) ?_
        refine ab_goto (tgt := 17) d_M_tellWeak_140 (by decide) ?_
        exact h
    · have h := h.2 c4
      refine ab_callV (me2 := mt_M_isSound) (b := mx) (as := [.int v2]) (st := []) (rv := (some (.int 0))) (M2 := (I, L, ab_RR, n, nc, ns)) d_M_tellWeak_27 ce_M_isSound v_1679 v_1681 v_89 (by decide) rfl (Nat.le_of_ble_eq_true rfl) (cx_M_isSound_0 v2 hT (show (vp_in 1 399) from by unfold vp_in; decide) c4) (Nat.le_refl _) (Nat.le_refl _) hc hs (fun j h9 => by cases h9) (fun _ _ => rfl) ?_
      show ab_E w (d + 1) mt_M_tellWeak 30 [.ref mx, .int v1, .int v2, .null] [.int 0] (I, L, ab_RR, n, nc, ns) res
      refine ab_if_eq (tgt := 137) d_M_tellWeak_30 (by decide) (fun _ => ?_) (fun c9 => absurd (show (0 : Int32) = 0 from by decide) c9)
      refine ab_iinc (i := 2) (v := (v2 + 1)) d_M_tellWeak_137 rfl rfl (by decide) (Or.inr rfl) ?_
      refine ab_goto (tgt := 17) d_M_tellWeak_140 (by decide) ?_
      exact h
theorem r_M_tellWeak_51 {w : ab_Wd} {d n nc ns : Nat} {I : Nat → Nat → Int32} {L : Nat → Nat → Int64} {res : ab_Re} (hT : w.1.stackTraces = false) (v1 : Int32) (v2 : Int32) (v3 : Int32) (hc : nc ≤ res.2.2.2.2.2.1) (hs : ns ≤ res.2.2.2.2.2.2)
    (h : (((I mx_now 0) ≤ v3 → (ab_E w (d + 1) mt_M_tellWeak 17 [.ref mx, .int v1, .int (v2 + 1), .null] [] (I, L, ab_RR, n, nc, ns) res)) ∧ (¬ (I mx_now 0) ≤ v3 → (((((I mx_now 1) >>> (v3 &&& 31)) &&& 1) = 1 → (∃ (r5 : Int32) (I6 : Nat → Nat → Int32), ab_C w d mt_M_isApart [.ref mx, .int ((1 : Int32) <<< (v3 &&& 31)), .int v1] (I, L, ab_RR, n, nc, ns) (.inl (some (.int r5)), (I6, L, ab_RR, n, nc, ns)) ∧ ((¬ r5 = 0 → (ab_E w (d + 1) mt_M_tellWeak 51 [.ref mx, .int v1, .int v2, .int (v3 + 1)] [] (I6, L, ab_RR, n, nc, ns) res)) ∧ (r5 = 0 → (∃ (r8 : Int32) (I9 : Nat → Nat → Int32), ab_C w d mt_M_isApart [.ref mx, .int (((1 : Int32) <<< (v2 &&& 31)) ||| ((1 : Int32) <<< (v3 &&& 31))), .int v1] (I6, L, ab_RR, n, nc, ns) (.inl (some (.int r8)), (I9, L, ab_RR, n, nc, ns)) ∧ ((¬ r8 = 0 → ((¬ (I9 mx 32) = (-1) → (ab_E w (d + 1) mt_M_tellWeak 51 [.ref mx, .int v1, .int v2, .int (v3 + 1)] [] ((ab_up (ab_up I9 mx 32 (I9 mx 32)) mx 31 ((I9 mx 31) + 1)), L, ab_RR, n, nc, ns) res)) ∧ ((I9 mx 32) = (-1) → (ab_E w (d + 1) mt_M_tellWeak 51 [.ref mx, .int v1, .int v2, .int (v3 + 1)] [] ((ab_up (ab_up I9 mx 32 ((100 * v2) + v3)) mx 31 ((I9 mx 31) + 1)), L, ab_RR, n, nc, ns) res)))) ∧ (r8 = 0 → (ab_E w (d + 1) mt_M_tellWeak 51 [.ref mx, .int v1, .int v2, .int (v3 + 1)] [] (I9, L, ab_RR, n, nc, ns) res)))))))) ∧ (¬ (((I mx_now 1) >>> (v3 &&& 31)) &&& 1) = 1 → (ab_E w (d + 1) mt_M_tellWeak 51 [.ref mx, .int v1, .int v2, .int (v3 + 1)] [] (I, L, ab_RR, n, nc, ns) res)))))) : ab_E w (d + 1) mt_M_tellWeak 51 [.ref mx, .int v1, .int v2, .int v3] [] (I, L, ab_RR, n, nc, ns) res := by
  refine ab_iload_n (i := 3) d_M_tellWeak_51 rfl rfl ?_
  refine ab_aload_n (i := 0) d_M_tellWeak_52 rfl rfl ?_
  refine ab_callV (me2 := mt_M_many) (b := mx) (as := []) (st := [.int v3]) (rv := (some (.int (I mx_now 0)))) (M2 := (I, L, ab_RR, n, nc, ns)) d_M_tellWeak_53 ce_M_many v_1635 v_1637 v_79 (by decide) rfl (Nat.le_of_ble_eq_true rfl) (cx_M_many_0  hT (show (vp_in 0 399) from by unfold vp_in; decide)) (Nat.le_refl _) (Nat.le_refl _) hc hs (fun j h9 => by cases h9) (fun _ _ => rfl) ?_
  show ab_E w (d + 1) mt_M_tellWeak 56 [.ref mx, .int v1, .int v2, .int v3] [.int (I mx_now 0), .int v3] (I, L, ab_RR, n, nc, ns) res
  refine ab_icmp_ge (tgt := 137) d_M_tellWeak_56 (by decide) (fun c2 => ?_) (fun c2 => ?_)
  · have h := h.1 c2
    refine ab_iinc (i := 2) (v := (v2 + 1)) d_M_tellWeak_137 rfl rfl (by decide) (Or.inr rfl) ?_
    refine ab_goto (tgt := 17) d_M_tellWeak_140 (by decide) ?_
    refine ab_drop 3 ?_
    exact h
  · have h := h.2 c2
    refine ab_aload_n (i := 0) d_M_tellWeak_59 rfl rfl ?_
    refine ab_iload_n (i := 3) d_M_tellWeak_60 rfl rfl ?_
    by_cases c4 : (((I mx_now 1) >>> (v3 &&& 31)) &&& 1) = 1
    · have h := h.1 c4
      refine ab_callV (me2 := mt_M_isSound) (b := mx) (as := [.int v3]) (st := []) (rv := (some (.int 1))) (M2 := (I, L, ab_RR, n, nc, ns)) d_M_tellWeak_61 ce_M_isSound v_1679 v_1681 v_89 (by decide) rfl (Nat.le_of_ble_eq_true rfl) (cx_M_isSound_1 v3 hT (show (vp_in 1 399) from by unfold vp_in; decide) c4) (Nat.le_refl _) (Nat.le_refl _) hc hs (fun j h9 => by cases h9) (fun _ _ => rfl) ?_
      show ab_E w (d + 1) mt_M_tellWeak 64 [.ref mx, .int v1, .int v2, .int v3] [.int 1] (I, L, ab_RR, n, nc, ns) res
      refine ab_if_eq (tgt := 131) d_M_tellWeak_64 (by decide) (fun c9 => absurd c9 (show ¬ (1 : Int32) = 0 from by decide)) (fun _ => ?_)
      refine ab_aload_n (i := 0) d_M_tellWeak_67 rfl rfl ?_
      refine ab_iconst (v := 1) d_M_tellWeak_68 rfl ?_
      refine ab_iload_n (i := 3) d_M_tellWeak_69 rfl rfl ?_
      refine ab_ishl d_M_tellWeak_70 ?_
      refine ab_iload_n (i := 1) d_M_tellWeak_71 rfl rfl ?_
      obtain ⟨r5, I6, hC, h⟩ := h
      refine ab_callV (me2 := mt_M_isApart) (b := mx) (as := [.int ((1 : Int32) <<< (v3 &&& 31)), .int v1]) (st := []) (rv := (some (.int r5))) (M2 := (I6, L, ab_RR, n, nc, ns)) d_M_tellWeak_72 ce_M_isApart v_1723 v_1725 v_100 (by decide) rfl (Nat.le_of_ble_eq_true rfl) hC (Nat.le_refl _) (Nat.le_refl _) hc hs (fun j h9 => by cases h9) (fun _ _ => rfl) ?_
      show ab_E w (d + 1) mt_M_tellWeak 75 [.ref mx, .int v1, .int v2, .int v3] [.int r5] (I6, L, ab_RR, n, nc, ns) res
      refine ab_if_ne (tgt := 131) d_M_tellWeak_75 (by decide) (fun c7 => ?_) (fun c7 => ?_)
      · have h := h.1 c7
        refine ab_iinc (i := 3) (v := (v3 + 1)) d_M_tellWeak_131 rfl rfl (by decide) (Or.inr rfl) ?_
        refine ab_goto (tgt := 51) d_M_tellWeak_134 (by decide) ?_
        exact h
      · have h := h.2 c7
        refine ab_aload_n (i := 0) d_M_tellWeak_78 rfl rfl ?_
        refine ab_iconst (v := 1) d_M_tellWeak_79 rfl ?_
        refine ab_iload_n (i := 2) d_M_tellWeak_80 rfl rfl ?_
        refine ab_ishl d_M_tellWeak_81 ?_
        refine ab_iconst (v := 1) d_M_tellWeak_82 rfl ?_
        refine ab_iload_n (i := 3) d_M_tellWeak_83 rfl rfl ?_
        refine ab_ishl d_M_tellWeak_84 ?_
        refine ab_ior d_M_tellWeak_85 ?_
        refine ab_iload_n (i := 1) d_M_tellWeak_86 rfl rfl ?_
        obtain ⟨r8, I9, hC, h⟩ := h
        refine ab_callV (me2 := mt_M_isApart) (b := mx) (as := [.int (((1 : Int32) <<< (v2 &&& 31)) ||| ((1 : Int32) <<< (v3 &&& 31))), .int v1]) (st := []) (rv := (some (.int r8))) (M2 := (I9, L, ab_RR, n, nc, ns)) d_M_tellWeak_87 ce_M_isApart v_1723 v_1725 v_100 (by decide) rfl (Nat.le_of_ble_eq_true rfl) hC (Nat.le_refl _) (Nat.le_refl _) hc hs (fun j h9 => by cases h9) (fun _ _ => rfl) ?_
        show ab_E w (d + 1) mt_M_tellWeak 90 [.ref mx, .int v1, .int v2, .int v3] [.int r8] (I9, L, ab_RR, n, nc, ns) res
        refine ab_if_ne (tgt := 96) d_M_tellWeak_90 (by decide) (fun c10 => ?_) (fun c10 => ?_)
        · have h := h.1 c10
          refine ab_aload_n (i := 0) d_M_tellWeak_96 rfl rfl ?_
          refine ab_aload_n (i := 0) d_M_tellWeak_97 rfl rfl ?_
          refine ab_getI (ci := 11) (k := 32) d_M_tellWeak_98 v_1400 rfl (by decide) (by decide) rfl ?_
          refine ab_iconst (v := (-1)) d_M_tellWeak_101 rfl ?_
          refine ab_icmp_ne (tgt := 114) d_M_tellWeak_102 (by decide) (fun c11 => ?_) (fun c11 => ?_)
          · have h := h.1 c11
            refine ab_aload_n (i := 0) d_M_tellWeak_114 rfl rfl ?_
            refine ab_getI (ci := 11) (k := 32) d_M_tellWeak_115 v_1400 rfl (by decide) (by decide) rfl ?_
            refine ab_putI (ci := 11) (k := 32) d_M_tellWeak_118 v_1400 rfl (by decide) (by decide) rfl (Or.inl rfl) rfl rfl ?_
            refine ab_aload_n (i := 0) d_M_tellWeak_121 rfl rfl ?_
            refine ab_dupr d_M_tellWeak_122 ?_
            refine ab_getI (ci := 11) (k := 31) d_M_tellWeak_123 v_1399 rfl (by decide) (by decide) rfl ?_
            refine ab_iconst (v := 1) d_M_tellWeak_126 rfl ?_
            refine ab_iadd d_M_tellWeak_127 ?_
            refine ab_putI (ci := 11) (k := 31) d_M_tellWeak_128 v_1399 rfl (by decide) (by decide) rfl (Or.inl rfl) rfl rfl ?_
            refine ab_iinc (i := 3) (v := (v3 + 1)) d_M_tellWeak_131 rfl rfl (by decide) (Or.inr rfl) ?_
            refine ab_goto (tgt := 51) d_M_tellWeak_134 (by decide) ?_
            exact h
          · have h := h.2 c11
            refine ab_bipush (v := 100) d_M_tellWeak_105 rfl ?_
            refine ab_iload_n (i := 2) d_M_tellWeak_107 rfl rfl ?_
            refine ab_imul d_M_tellWeak_108 ?_
            refine ab_iload_n (i := 3) d_M_tellWeak_109 rfl rfl ?_
            refine ab_iadd d_M_tellWeak_110 ?_
            refine ab_goto (tgt := 118) d_M_tellWeak_111 (by decide) ?_
            refine ab_putI (ci := 11) (k := 32) d_M_tellWeak_118 v_1400 rfl (by decide) (by decide) rfl (Or.inl rfl) rfl rfl ?_
            refine ab_aload_n (i := 0) d_M_tellWeak_121 rfl rfl ?_
            refine ab_dupr d_M_tellWeak_122 ?_
            refine ab_getI (ci := 11) (k := 31) d_M_tellWeak_123 v_1399 rfl (by decide) (by decide) rfl ?_
            refine ab_iconst (v := 1) d_M_tellWeak_126 rfl ?_
            refine ab_iadd d_M_tellWeak_127 ?_
            refine ab_putI (ci := 11) (k := 31) d_M_tellWeak_128 v_1399 rfl (by decide) (by decide) rfl (Or.inl rfl) rfl rfl ?_
            refine ab_iinc (i := 3) (v := (v3 + 1)) d_M_tellWeak_131 rfl rfl (by decide) (Or.inr rfl) ?_
            refine ab_goto (tgt := 51) d_M_tellWeak_134 (by decide) ?_
            exact h
        · have h := h.2 c10
          refine ab_goto (tgt := 131) d_M_tellWeak_93 (by decide) ?_
          refine ab_iinc (i := 3) (v := (v3 + 1)) d_M_tellWeak_131 rfl rfl (by decide) (Or.inr rfl) ?_
          refine ab_goto (tgt := 51) d_M_tellWeak_134 (by decide) ?_
          exact h
    · have h := h.2 c4
      refine ab_callV (me2 := mt_M_isSound) (b := mx) (as := [.int v3]) (st := []) (rv := (some (.int 0))) (M2 := (I, L, ab_RR, n, nc, ns)) d_M_tellWeak_61 ce_M_isSound v_1679 v_1681 v_89 (by decide) rfl (Nat.le_of_ble_eq_true rfl) (cx_M_isSound_0 v3 hT (show (vp_in 1 399) from by unfold vp_in; decide) c4) (Nat.le_refl _) (Nat.le_refl _) hc hs (fun j h9 => by cases h9) (fun _ _ => rfl) ?_
      show ab_E w (d + 1) mt_M_tellWeak 64 [.ref mx, .int v1, .int v2, .int v3] [.int 0] (I, L, ab_RR, n, nc, ns) res
      refine ab_if_eq (tgt := 131) d_M_tellWeak_64 (by decide) (fun _ => ?_) (fun c9 => absurd (show (0 : Int32) = 0 from by decide) c9)
      refine ab_iinc (i := 3) (v := (v3 + 1)) d_M_tellWeak_131 rfl rfl (by decide) (Or.inr rfl) ?_
      refine ab_goto (tgt := 51) d_M_tellWeak_134 (by decide) ?_
      exact h
theorem cx_M_isIn_0 {w : ab_Wd} {d n nc ns : Nat} {I : Nat → Nat → Int32} {L : Nat → Nat → Int64} (v0 : Int32) (v1 : Int32) (v2 : Int32) (hT : w.1.stackTraces = false) (e1 : v0 < v1) : ab_C w d mt_M_isIn [.int v0, .int v1, .int v2] (I, L, ab_RR, n, nc, ns) (.inl (some (.int 0)), (I, L, ab_RR, n, nc, ns)) := by
  refine ab_C_of (by decide) rfl (Nat.le_of_ble_eq_true rfl) hT ?_
  have hc := Nat.le_refl nc
  have hs := Nat.le_refl ns
  refine ab_iload_n (i := 0) d_M_isIn_0 rfl rfl ?_
  refine ab_iload_n (i := 1) d_M_isIn_1 rfl rfl ?_
  refine ab_icmp_lt (tgt := 14) d_M_isIn_2 (by decide) (fun _ => ?_) (fun c9 => absurd e1 c9)
  refine ab_iconst (v := 0) d_M_isIn_14 rfl ?_
  exact ab_iret (ty := .boolean) d_M_isIn_15 rfl rfl rfl
theorem cx_M_isIn_1 {w : ab_Wd} {d n nc ns : Nat} {I : Nat → Nat → Int32} {L : Nat → Nat → Int64} (v0 : Int32) (v1 : Int32) (v2 : Int32) (hT : w.1.stackTraces = false) (e1 : ¬ v0 < v1) (e2 : v2 < v0) : ab_C w d mt_M_isIn [.int v0, .int v1, .int v2] (I, L, ab_RR, n, nc, ns) (.inl (some (.int 0)), (I, L, ab_RR, n, nc, ns)) := by
  refine ab_C_of (by decide) rfl (Nat.le_of_ble_eq_true rfl) hT ?_
  have hc := Nat.le_refl nc
  have hs := Nat.le_refl ns
  refine ab_iload_n (i := 0) d_M_isIn_0 rfl rfl ?_
  refine ab_iload_n (i := 1) d_M_isIn_1 rfl rfl ?_
  refine ab_icmp_lt (tgt := 14) d_M_isIn_2 (by decide) (fun c9 => absurd c9 e1) (fun _ => ?_)
  refine ab_iload_n (i := 0) d_M_isIn_5 rfl rfl ?_
  refine ab_iload_n (i := 2) d_M_isIn_6 rfl rfl ?_
  refine ab_icmp_gt (tgt := 14) d_M_isIn_7 (by decide) (fun _ => ?_) (fun c9 => absurd e2 c9)
  refine ab_iconst (v := 0) d_M_isIn_14 rfl ?_
  exact ab_iret (ty := .boolean) d_M_isIn_15 rfl rfl rfl
theorem cx_M_isIn_2 {w : ab_Wd} {d n nc ns : Nat} {I : Nat → Nat → Int32} {L : Nat → Nat → Int64} (v0 : Int32) (v1 : Int32) (v2 : Int32) (hT : w.1.stackTraces = false) (e1 : ¬ v0 < v1) (e2 : ¬ v2 < v0) : ab_C w d mt_M_isIn [.int v0, .int v1, .int v2] (I, L, ab_RR, n, nc, ns) (.inl (some (.int 1)), (I, L, ab_RR, n, nc, ns)) := by
  refine ab_C_of (by decide) rfl (Nat.le_of_ble_eq_true rfl) hT ?_
  have hc := Nat.le_refl nc
  have hs := Nat.le_refl ns
  refine ab_iload_n (i := 0) d_M_isIn_0 rfl rfl ?_
  refine ab_iload_n (i := 1) d_M_isIn_1 rfl rfl ?_
  refine ab_icmp_lt (tgt := 14) d_M_isIn_2 (by decide) (fun c9 => absurd c9 e1) (fun _ => ?_)
  refine ab_iload_n (i := 0) d_M_isIn_5 rfl rfl ?_
  refine ab_iload_n (i := 2) d_M_isIn_6 rfl rfl ?_
  refine ab_icmp_gt (tgt := 14) d_M_isIn_7 (by decide) (fun c9 => absurd c9 e2) (fun _ => ?_)
  refine ab_iconst (v := 1) d_M_isIn_10 rfl ?_
  refine ab_goto (tgt := 15) d_M_isIn_11 (by decide) ?_
  exact ab_iret (ty := .boolean) d_M_isIn_15 rfl rfl rfl
theorem cx_M_isCable_0 {w : ab_Wd} {d n nc ns : Nat} {I : Nat → Nat → Int32} {L : Nat → Nat → Int64} (v1 : Int32) (hT : w.1.stackTraces = false) (e1 : (vp_in 0 399)) (e2 : v1 < 0) : ab_C w (d + 1) mt_M_isCable [.ref mx, .int v1] (I, L, ab_RR, n, nc, ns) (.inl (some (.int 0)), (I, L, ab_RR, n, nc, ns)) := by
  refine ab_C_of (by decide) rfl (Nat.le_of_ble_eq_true rfl) hT ?_
  have hc := Nat.le_refl nc
  have hs := Nat.le_refl ns
  refine ab_iload_n (i := 1) d_M_isCable_0 rfl rfl ?_
  refine ab_iconst (v := 0) d_M_isCable_1 rfl ?_
  refine ab_aload_n (i := 0) d_M_isCable_2 rfl rfl ?_
  refine ab_callV (me2 := mt_M_many) (b := mx) (as := []) (st := [.int 0, .int v1]) (rv := (some (.int (I mx_now 0)))) (M2 := (I, L, ab_RR, n, nc, ns)) d_M_isCable_3 ce_M_many v_1635 v_1637 v_79 (by decide) rfl (Nat.le_of_ble_eq_true rfl) (cx_M_many_0  hT e1) (Nat.le_refl _) (Nat.le_refl _) hc hs (fun j h9 => by cases h9) (fun _ _ => rfl) ?_
  show ab_E w (d + 1) mt_M_isCable 6 [.ref mx, .int v1] [.int (I mx_now 0), .int 0, .int v1] (I, L, ab_RR, n, nc, ns) _
  refine ab_iconst (v := 1) d_M_isCable_6 rfl ?_
  refine ab_isub d_M_isCable_7 ?_
  refine ab_callS (me2 := mt_M_isIn) (as := [.int v1, .int 0, .int ((I mx_now 0) - 1)]) (st := []) (rv := (some (.int 0))) (M2 := (I, L, ab_RR, n, nc, ns)) d_M_isCable_8 ce_M_isIn ⟨v_1753, Or.inl v_1752⟩ (Nat.le_of_ble_eq_true rfl) (cx_M_isIn_0 v1 0 ((I mx_now 0) - 1) hT e2) (Nat.le_refl _) (Nat.le_refl _) hc hs (fun j h9 => by cases h9) (fun _ _ => rfl) ?_
  show ab_E w (d + 1) mt_M_isCable 11 [.ref mx, .int v1] [.int 0] (I, L, ab_RR, n, nc, ns) _
  exact ab_iret (ty := .boolean) d_M_isCable_11 rfl rfl rfl
theorem cx_M_isCable_1 {w : ab_Wd} {d n nc ns : Nat} {I : Nat → Nat → Int32} {L : Nat → Nat → Int64} (v1 : Int32) (hT : w.1.stackTraces = false) (e1 : (vp_in 0 399)) (e2 : ¬ v1 < 0) (e3 : ((I mx_now 0) - 1) < v1) : ab_C w (d + 1) mt_M_isCable [.ref mx, .int v1] (I, L, ab_RR, n, nc, ns) (.inl (some (.int 0)), (I, L, ab_RR, n, nc, ns)) := by
  refine ab_C_of (by decide) rfl (Nat.le_of_ble_eq_true rfl) hT ?_
  have hc := Nat.le_refl nc
  have hs := Nat.le_refl ns
  refine ab_iload_n (i := 1) d_M_isCable_0 rfl rfl ?_
  refine ab_iconst (v := 0) d_M_isCable_1 rfl ?_
  refine ab_aload_n (i := 0) d_M_isCable_2 rfl rfl ?_
  refine ab_callV (me2 := mt_M_many) (b := mx) (as := []) (st := [.int 0, .int v1]) (rv := (some (.int (I mx_now 0)))) (M2 := (I, L, ab_RR, n, nc, ns)) d_M_isCable_3 ce_M_many v_1635 v_1637 v_79 (by decide) rfl (Nat.le_of_ble_eq_true rfl) (cx_M_many_0  hT e1) (Nat.le_refl _) (Nat.le_refl _) hc hs (fun j h9 => by cases h9) (fun _ _ => rfl) ?_
  show ab_E w (d + 1) mt_M_isCable 6 [.ref mx, .int v1] [.int (I mx_now 0), .int 0, .int v1] (I, L, ab_RR, n, nc, ns) _
  refine ab_iconst (v := 1) d_M_isCable_6 rfl ?_
  refine ab_isub d_M_isCable_7 ?_
  refine ab_callS (me2 := mt_M_isIn) (as := [.int v1, .int 0, .int ((I mx_now 0) - 1)]) (st := []) (rv := (some (.int 0))) (M2 := (I, L, ab_RR, n, nc, ns)) d_M_isCable_8 ce_M_isIn ⟨v_1753, Or.inl v_1752⟩ (Nat.le_of_ble_eq_true rfl) (cx_M_isIn_1 v1 0 ((I mx_now 0) - 1) hT e2 e3) (Nat.le_refl _) (Nat.le_refl _) hc hs (fun j h9 => by cases h9) (fun _ _ => rfl) ?_
  show ab_E w (d + 1) mt_M_isCable 11 [.ref mx, .int v1] [.int 0] (I, L, ab_RR, n, nc, ns) _
  exact ab_iret (ty := .boolean) d_M_isCable_11 rfl rfl rfl
theorem cx_M_isCable_2 {w : ab_Wd} {d n nc ns : Nat} {I : Nat → Nat → Int32} {L : Nat → Nat → Int64} (v1 : Int32) (hT : w.1.stackTraces = false) (e1 : (vp_in 0 399)) (e2 : ¬ v1 < 0) (e3 : ¬ ((I mx_now 0) - 1) < v1) : ab_C w (d + 1) mt_M_isCable [.ref mx, .int v1] (I, L, ab_RR, n, nc, ns) (.inl (some (.int 1)), (I, L, ab_RR, n, nc, ns)) := by
  refine ab_C_of (by decide) rfl (Nat.le_of_ble_eq_true rfl) hT ?_
  have hc := Nat.le_refl nc
  have hs := Nat.le_refl ns
  refine ab_iload_n (i := 1) d_M_isCable_0 rfl rfl ?_
  refine ab_iconst (v := 0) d_M_isCable_1 rfl ?_
  refine ab_aload_n (i := 0) d_M_isCable_2 rfl rfl ?_
  refine ab_callV (me2 := mt_M_many) (b := mx) (as := []) (st := [.int 0, .int v1]) (rv := (some (.int (I mx_now 0)))) (M2 := (I, L, ab_RR, n, nc, ns)) d_M_isCable_3 ce_M_many v_1635 v_1637 v_79 (by decide) rfl (Nat.le_of_ble_eq_true rfl) (cx_M_many_0  hT e1) (Nat.le_refl _) (Nat.le_refl _) hc hs (fun j h9 => by cases h9) (fun _ _ => rfl) ?_
  show ab_E w (d + 1) mt_M_isCable 6 [.ref mx, .int v1] [.int (I mx_now 0), .int 0, .int v1] (I, L, ab_RR, n, nc, ns) _
  refine ab_iconst (v := 1) d_M_isCable_6 rfl ?_
  refine ab_isub d_M_isCable_7 ?_
  refine ab_callS (me2 := mt_M_isIn) (as := [.int v1, .int 0, .int ((I mx_now 0) - 1)]) (st := []) (rv := (some (.int 1))) (M2 := (I, L, ab_RR, n, nc, ns)) d_M_isCable_8 ce_M_isIn ⟨v_1753, Or.inl v_1752⟩ (Nat.le_of_ble_eq_true rfl) (cx_M_isIn_2 v1 0 ((I mx_now 0) - 1) hT e2 e3) (Nat.le_refl _) (Nat.le_refl _) hc hs (fun j h9 => by cases h9) (fun _ _ => rfl) ?_
  show ab_E w (d + 1) mt_M_isCable 11 [.ref mx, .int v1] [.int 1] (I, L, ab_RR, n, nc, ns) _
  exact ab_iret (ty := .boolean) d_M_isCable_11 rfl rfl rfl
theorem cx_M_isSite_0 {w : ab_Wd} {d n nc ns : Nat} {I : Nat → Nat → Int32} {L : Nat → Nat → Int64} (v1 : Int32) (hT : w.1.stackTraces = false) (e1 : v1 < 0) : ab_C w (d + 1) mt_M_isSite [.ref mx, .int v1] (I, L, ab_RR, n, nc, ns) (.inl (some (.int 0)), (I, L, ab_RR, n, nc, ns)) := by
  refine ab_C_of (by decide) rfl (Nat.le_of_ble_eq_true rfl) hT ?_
  have hc := Nat.le_refl nc
  have hs := Nat.le_refl ns
  refine ab_iload_n (i := 1) d_M_isSite_0 rfl rfl ?_
  refine ab_iconst (v := 0) d_M_isSite_1 rfl ?_
  refine ab_aload_n (i := 0) d_M_isSite_2 rfl rfl ?_
  refine ab_getI (ci := 11) (k := 2) d_M_isSite_3 v_1370 rfl (by decide) (by decide) rfl ?_
  refine ab_iconst (v := 1) d_M_isSite_6 rfl ?_
  refine ab_isub d_M_isSite_7 ?_
  refine ab_callS (me2 := mt_M_isIn) (as := [.int v1, .int 0, .int ((I mx 2) - 1)]) (st := []) (rv := (some (.int 0))) (M2 := (I, L, ab_RR, n, nc, ns)) d_M_isSite_8 ce_M_isIn ⟨v_1753, Or.inl v_1752⟩ (Nat.le_of_ble_eq_true rfl) (cx_M_isIn_0 v1 0 ((I mx 2) - 1) hT e1) (Nat.le_refl _) (Nat.le_refl _) hc hs (fun j h9 => by cases h9) (fun _ _ => rfl) ?_
  show ab_E w (d + 1) mt_M_isSite 11 [.ref mx, .int v1] [.int 0] (I, L, ab_RR, n, nc, ns) _
  exact ab_iret (ty := .boolean) d_M_isSite_11 rfl rfl rfl
theorem cx_M_isSite_1 {w : ab_Wd} {d n nc ns : Nat} {I : Nat → Nat → Int32} {L : Nat → Nat → Int64} (v1 : Int32) (hT : w.1.stackTraces = false) (e1 : ¬ v1 < 0) (e2 : ((I mx 2) - 1) < v1) : ab_C w (d + 1) mt_M_isSite [.ref mx, .int v1] (I, L, ab_RR, n, nc, ns) (.inl (some (.int 0)), (I, L, ab_RR, n, nc, ns)) := by
  refine ab_C_of (by decide) rfl (Nat.le_of_ble_eq_true rfl) hT ?_
  have hc := Nat.le_refl nc
  have hs := Nat.le_refl ns
  refine ab_iload_n (i := 1) d_M_isSite_0 rfl rfl ?_
  refine ab_iconst (v := 0) d_M_isSite_1 rfl ?_
  refine ab_aload_n (i := 0) d_M_isSite_2 rfl rfl ?_
  refine ab_getI (ci := 11) (k := 2) d_M_isSite_3 v_1370 rfl (by decide) (by decide) rfl ?_
  refine ab_iconst (v := 1) d_M_isSite_6 rfl ?_
  refine ab_isub d_M_isSite_7 ?_
  refine ab_callS (me2 := mt_M_isIn) (as := [.int v1, .int 0, .int ((I mx 2) - 1)]) (st := []) (rv := (some (.int 0))) (M2 := (I, L, ab_RR, n, nc, ns)) d_M_isSite_8 ce_M_isIn ⟨v_1753, Or.inl v_1752⟩ (Nat.le_of_ble_eq_true rfl) (cx_M_isIn_1 v1 0 ((I mx 2) - 1) hT e1 e2) (Nat.le_refl _) (Nat.le_refl _) hc hs (fun j h9 => by cases h9) (fun _ _ => rfl) ?_
  show ab_E w (d + 1) mt_M_isSite 11 [.ref mx, .int v1] [.int 0] (I, L, ab_RR, n, nc, ns) _
  exact ab_iret (ty := .boolean) d_M_isSite_11 rfl rfl rfl
theorem cx_M_isSite_2 {w : ab_Wd} {d n nc ns : Nat} {I : Nat → Nat → Int32} {L : Nat → Nat → Int64} (v1 : Int32) (hT : w.1.stackTraces = false) (e1 : ¬ v1 < 0) (e2 : ¬ ((I mx 2) - 1) < v1) : ab_C w (d + 1) mt_M_isSite [.ref mx, .int v1] (I, L, ab_RR, n, nc, ns) (.inl (some (.int 1)), (I, L, ab_RR, n, nc, ns)) := by
  refine ab_C_of (by decide) rfl (Nat.le_of_ble_eq_true rfl) hT ?_
  have hc := Nat.le_refl nc
  have hs := Nat.le_refl ns
  refine ab_iload_n (i := 1) d_M_isSite_0 rfl rfl ?_
  refine ab_iconst (v := 0) d_M_isSite_1 rfl ?_
  refine ab_aload_n (i := 0) d_M_isSite_2 rfl rfl ?_
  refine ab_getI (ci := 11) (k := 2) d_M_isSite_3 v_1370 rfl (by decide) (by decide) rfl ?_
  refine ab_iconst (v := 1) d_M_isSite_6 rfl ?_
  refine ab_isub d_M_isSite_7 ?_
  refine ab_callS (me2 := mt_M_isIn) (as := [.int v1, .int 0, .int ((I mx 2) - 1)]) (st := []) (rv := (some (.int 1))) (M2 := (I, L, ab_RR, n, nc, ns)) d_M_isSite_8 ce_M_isIn ⟨v_1753, Or.inl v_1752⟩ (Nat.le_of_ble_eq_true rfl) (cx_M_isIn_2 v1 0 ((I mx 2) - 1) hT e1 e2) (Nat.le_refl _) (Nat.le_refl _) hc hs (fun j h9 => by cases h9) (fun _ _ => rfl) ?_
  show ab_E w (d + 1) mt_M_isSite 11 [.ref mx, .int v1] [.int 1] (I, L, ab_RR, n, nc, ns) _
  exact ab_iret (ty := .boolean) d_M_isSite_11 rfl rfl rfl
theorem r_M_cable_0 {w : ab_Wd} {d n nc ns : Nat} {I : Nat → Nat → Int32} {L : Nat → Nat → Int64} {res : ab_Re} (hT : w.1.stackTraces = false) (v1 : Int32) (v2 : Int32) (hc : nc ≤ res.2.2.2.2.2.1) (hs : ns ≤ res.2.2.2.2.2.2)
    (h : ((v1 < 0 → (res = (.inl (some (.int 0)), ((ab_up (ab_up I mx 1 0) mx 1 1), L, ab_RR, n, nc, ns)))) ∧ (¬ v1 < 0 → ((((I mx_now 0) - 1) < v1 → (res = (.inl (some (.int 0)), ((ab_up (ab_up I mx 1 0) mx 1 1), L, ab_RR, n, nc, ns)))) ∧ (¬ ((I mx_now 0) - 1) < v1 → (∃ (r8 : Int32) (I9 : Nat → Nat → Int32), ab_C w (d + 1) mt_M_netNow [.ref mx] ((ab_up I mx 1 0), L, ab_RR, n, nc, ns) (.inl (some (.int r8)), (I9, L, ab_RR, n, nc, ns)) ∧ ((v2 = 0 → ((vp_in (3 + v1) 399) ∧ res = (.inl (some (.int (I9 mx_now (3 + v1).toNatClampNeg))), (I9, L, ab_RR, n, nc, ns)))) ∧ (v2 = 1 → ((vp_in (27 + v1) 399) ∧ res = (.inl (some (.int (I9 mx_now (27 + v1).toNatClampNeg))), (I9, L, ab_RR, n, nc, ns)))) ∧ (v2 = 2 → ((vp_in (51 + v1) 399) ∧ res = (.inl (some (.int (I9 mx_now (51 + v1).toNatClampNeg))), (I9, L, ab_RR, n, nc, ns)))) ∧ (v2 = 3 → ((vp_in (75 + v1) 399) ∧ res = (.inl (some (.int (I9 mx_now (75 + v1).toNatClampNeg))), (I9, L, ab_RR, n, nc, ns)))) ∧ (v2 = 4 → (((((I9 mx_now 1) >>> (v1 &&& 31)) &&& 1) = 1 → (res = (.inl (some (.int 1)), (I9, L, ab_RR, n, nc, ns)))) ∧ (¬ (((I9 mx_now 1) >>> (v1 &&& 31)) &&& 1) = 1 → (res = (.inl (some (.int 0)), (I9, L, ab_RR, n, nc, ns)))))) ∧ (v2 = 5 → ((((r8 >>> (v1 &&& 31)) &&& 1) = 1 → (res = (.inl (some (.int 1)), (I9, L, ab_RR, n, nc, ns)))) ∧ (¬ ((r8 >>> (v1 &&& 31)) &&& 1) = 1 → (res = (.inl (some (.int 0)), (I9, L, ab_RR, n, nc, ns)))))) ∧ (v2 = 6 → (∃ (r19 : Int32) (I20 : Nat → Nat → Int32), ab_C w (d + 1) mt_M_tellRing [.ref mx, .int r8, .int v1] (I9, L, ab_RR, n, nc, ns) (.inl (some (.int r19)), (I20, L, ab_RR, n, nc, ns)) ∧ res = (.inl (some (.int r19)), (I20, L, ab_RR, n, nc, ns)))) ∧ (v2 = 7 → (∃ (r21 : Int32) (I22 : Nat → Nat → Int32), ab_C w (d + 1) mt_M_tellRing [.ref mx, .int r8, .int v1] (I9, L, ab_RR, n, nc, ns) (.inl (some (.int r21)), (I22, L, ab_RR, n, nc, ns)) ∧ ((¬ r21 = 0 → (∃ (r24 : Int32), ab_C w (d + 1) mt_M_dearestOnWay [.ref mx] (I22, L, ab_RR, n, nc, ns) (.inl (some (.int r24)), (I22, L, ab_RR, n, nc, ns)) ∧ res = (.inl (some (.int r24)), (I22, L, ab_RR, n, nc, ns)))) ∧ (r21 = 0 → (res = (.inl (some (.int (-1))), (I22, L, ab_RR, n, nc, ns))))))) ∧ (v2 = 8 → (∃ (r25 : Int32) (I26 : Nat → Nat → Int32), ab_C w (d + 1) mt_M_cutOf [.ref mx, .int r8, .int v1] (I9, L, ab_RR, n, nc, ns) (.inl (some (.int r25)), (I26, L, ab_RR, n, nc, ns)) ∧ res = (.inl (some (.int r25)), (I26, L, ab_RR, n, nc, ns)))) ∧ (v2 = 9 → (∃ (r27 : Int32) (I28 : Nat → Nat → Int32), ab_C w (d + 1) mt_M_rivalOf [.ref mx, .int r8, .int v1] (I9, L, ab_RR, n, nc, ns) (.inl (some (.int r27)), (I28, L, ab_RR, n, nc, ns)) ∧ res = (.inl (some (.int r27)), (I28, L, ab_RR, n, nc, ns)))) ∧ (v2 = 10 → (∃ (r29 : Int32) (I30 : Nat → Nat → Int32), ab_C w (d + 1) mt_M_barOf [.ref mx, .int v1] (I9, L, ab_RR, n, nc, ns) (.inl (some (.int r29)), (I30, L, ab_RR, n, nc, ns)) ∧ res = (.inl (some (.int r29)), (I30, L, ab_RR, n, nc, ns)))) ∧ (v2 = 11 → (((((I9 mx_now 1) >>> (v1 &&& 31)) &&& 1) = 1 → (∃ (r33 : Int32) (I34 : Nat → Nat → Int32), ab_C w (d + 1) mt_M_lossOf [.ref mx, .int ((1 : Int32) <<< (v1 &&& 31))] (I9, L, ab_RR, n, nc, ns) (.inl (some (.int r33)), (I34, L, ab_RR, n, nc, ns)) ∧ res = (.inl (some (.int r33)), (I34, L, ab_RR, n, nc, ns)))) ∧ (¬ (((I9 mx_now 1) >>> (v1 &&& 31)) &&& 1) = 1 → (res = (.inl (some (.int (-1))), (I9, L, ab_RR, n, nc, ns)))))) ∧ ((v2.toInt < 0 ∨ 11 < v2.toInt) → (res = (.inl (some (.int 0)), ((ab_up I9 mx 1 1), L, ab_RR, n, nc, ns))))))))))) : ab_E w (d + 2) mt_M_cable 0 [.ref mx, .int v1, .int v2, .null] [] (I, L, ab_RR, n, nc, ns) res := by
  refine ab_aload_n (i := 0) d_M_cable_0 rfl rfl ?_
  refine ab_iconst (v := 0) d_M_cable_1 rfl ?_
  refine ab_putI (ci := 11) (k := 1) d_M_cable_2 v_1369 rfl (by decide) (by decide) rfl (Or.inl rfl) rfl rfl ?_
  refine ab_aload_n (i := 0) d_M_cable_5 rfl rfl ?_
  refine ab_iload_n (i := 1) d_M_cable_6 rfl rfl ?_
  by_cases c2 : v1 < 0
  · have h := h.1 c2
    refine ab_callV (me2 := mt_M_isCable) (b := mx) (as := [.int v1]) (st := []) (rv := (some (.int 0))) (M2 := ((ab_up I mx 1 0), L, ab_RR, n, nc, ns)) d_M_cable_7 ce_M_isCable v_1748 v_1750 v_105 (by decide) rfl (Nat.le_of_ble_eq_true rfl) (cx_M_isCable_0 v1 hT (show (vp_in 0 399) from by unfold vp_in; decide) c2) (Nat.le_refl _) (Nat.le_refl _) hc hs (fun j h9 => by cases h9) (fun _ _ => rfl) ?_
    show ab_E w (d + 2) mt_M_cable 10 [.ref mx, .int v1, .int v2, .null] [.int 0] ((ab_up I mx 1 0), L, ab_RR, n, nc, ns) res
    refine ab_if_ne (tgt := 19) d_M_cable_10 (by decide) (fun c9 => absurd (show (0 : Int32) = 0 from by decide) c9) (fun _ => ?_)
    refine ab_aload_n (i := 0) d_M_cable_13 rfl rfl ?_
    refine ab_iconst (v := 1) d_M_cable_14 rfl ?_
    refine ab_callV (me2 := mt_M_fail) (b := mx) (as := [.int 1]) (st := []) (rv := (some (.int 0))) (M2 := ((ab_up (ab_up I mx 1 0) mx 1 1), L, ab_RR, n, nc, ns)) d_M_cable_15 ce_M_fail v_1562 v_1564 v_66 (by decide) rfl (Nat.le_of_ble_eq_true rfl) (cx_M_fail_0 1 hT) (Nat.le_refl _) (Nat.le_refl _) hc hs (fun j h9 => by cases h9) (fun _ _ => rfl) ?_
    show ab_E w (d + 2) mt_M_cable 18 [.ref mx, .int v1, .int v2, .null] [.int 0] ((ab_up (ab_up I mx 1 0) mx 1 1), L, ab_RR, n, nc, ns) res
    exact ab_iret (ty := .int) d_M_cable_18 rfl rfl h
  · have h := h.2 c2
    by_cases c5 : ((I mx_now 0) - 1) < v1
    · have h := h.1 c5
      refine ab_callV (me2 := mt_M_isCable) (b := mx) (as := [.int v1]) (st := []) (rv := (some (.int 0))) (M2 := ((ab_up I mx 1 0), L, ab_RR, n, nc, ns)) d_M_cable_7 ce_M_isCable v_1748 v_1750 v_105 (by decide) rfl (Nat.le_of_ble_eq_true rfl) (cx_M_isCable_1 v1 hT (show (vp_in 0 399) from by unfold vp_in; decide) c2 c5) (Nat.le_refl _) (Nat.le_refl _) hc hs (fun j h9 => by cases h9) (fun _ _ => rfl) ?_
      show ab_E w (d + 2) mt_M_cable 10 [.ref mx, .int v1, .int v2, .null] [.int 0] ((ab_up I mx 1 0), L, ab_RR, n, nc, ns) res
      refine ab_if_ne (tgt := 19) d_M_cable_10 (by decide) (fun c9 => absurd (show (0 : Int32) = 0 from by decide) c9) (fun _ => ?_)
      refine ab_aload_n (i := 0) d_M_cable_13 rfl rfl ?_
      refine ab_iconst (v := 1) d_M_cable_14 rfl ?_
      refine ab_callV (me2 := mt_M_fail) (b := mx) (as := [.int 1]) (st := []) (rv := (some (.int 0))) (M2 := ((ab_up (ab_up I mx 1 0) mx 1 1), L, ab_RR, n, nc, ns)) d_M_cable_15 ce_M_fail v_1562 v_1564 v_66 (by decide) rfl (Nat.le_of_ble_eq_true rfl) (cx_M_fail_0 1 hT) (Nat.le_refl _) (Nat.le_refl _) hc hs (fun j h9 => by cases h9) (fun _ _ => rfl) ?_
      show ab_E w (d + 2) mt_M_cable 18 [.ref mx, .int v1, .int v2, .null] [.int 0] ((ab_up (ab_up I mx 1 0) mx 1 1), L, ab_RR, n, nc, ns) res
      exact ab_iret (ty := .int) d_M_cable_18 rfl rfl h
    · have h := h.2 c5
      refine ab_callV (me2 := mt_M_isCable) (b := mx) (as := [.int v1]) (st := []) (rv := (some (.int 1))) (M2 := ((ab_up I mx 1 0), L, ab_RR, n, nc, ns)) d_M_cable_7 ce_M_isCable v_1748 v_1750 v_105 (by decide) rfl (Nat.le_of_ble_eq_true rfl) (cx_M_isCable_2 v1 hT (show (vp_in 0 399) from by unfold vp_in; decide) c2 c5) (Nat.le_refl _) (Nat.le_refl _) hc hs (fun j h9 => by cases h9) (fun _ _ => rfl) ?_
      show ab_E w (d + 2) mt_M_cable 10 [.ref mx, .int v1, .int v2, .null] [.int 1] ((ab_up I mx 1 0), L, ab_RR, n, nc, ns) res
      refine ab_if_ne (tgt := 19) d_M_cable_10 (by decide) (fun _ => ?_) (fun c9 => absurd c9 (show ¬ (1 : Int32) = 0 from by decide))
      refine ab_aload_n (i := 0) d_M_cable_19 rfl rfl ?_
      obtain ⟨r8, I9, hC, h⟩ := h
      refine ab_callV (me2 := mt_M_netNow) (b := mx) (as := []) (st := []) (rv := (some (.int r8))) (M2 := (I9, L, ab_RR, n, nc, ns)) d_M_cable_20 ce_M_netNow v_1639 v_1641 v_80 (by decide) rfl (Nat.le_of_ble_eq_true rfl) hC (Nat.le_refl _) (Nat.le_refl _) hc hs (fun j h9 => by cases h9) (fun _ _ => rfl) ?_
      show ab_E w (d + 2) mt_M_cable 23 [.ref mx, .int v1, .int v2, .null] [.int r8] (I9, L, ab_RR, n, nc, ns) res
      refine ab_istore_n (i := 3) d_M_cable_23 rfl (by decide) (Or.inr rfl) ?_
      refine ab_iload_n (i := 2) d_M_cable_24 rfl rfl ?_
      by_cases c37 : v2 = 0
      · have h := h.1 c37
        refine ab_tabIn (tgt := 88) d_M_cable_25 (by rw [c37]; decide) (by rw [c37]; decide) (by rw [ab_tab_in (j := 0) c37 (by decide)]; rfl) (by decide) ?_
        refine ab_aload_n (i := 0) d_M_cable_88 rfl rfl ?_
        refine ab_getR (ci := 11) (k := 4) (j := mx_now) d_M_cable_89 v_1372 rfl (by decide) (by decide) rfl r_mx_4 ?_
        refine ab_iconst (v := 3) d_M_cable_92 rfl ?_
        refine ab_iload_n (i := 1) d_M_cable_93 rfl rfl ?_
        refine ab_iadd d_M_cable_94 ?_
        have g10 := h.1; have h := h.2
        refine ab_iald d_M_cable_95 rfl rfl g10 ?_
        exact ab_iret (ty := .int) d_M_cable_96 rfl rfl h
      by_cases c38 : v2 = 1
      · have h := h.2.1 c38
        refine ab_tabIn (tgt := 97) d_M_cable_25 (by rw [c38]; decide) (by rw [c38]; decide) (by rw [ab_tab_in (j := 1) c38 (by decide)]; rfl) (by decide) ?_
        refine ab_aload_n (i := 0) d_M_cable_97 rfl rfl ?_
        refine ab_getR (ci := 11) (k := 4) (j := mx_now) d_M_cable_98 v_1372 rfl (by decide) (by decide) rfl r_mx_4 ?_
        refine ab_bipush (v := 27) d_M_cable_101 rfl ?_
        refine ab_iload_n (i := 1) d_M_cable_103 rfl rfl ?_
        refine ab_iadd d_M_cable_104 ?_
        have g11 := h.1; have h := h.2
        refine ab_iald d_M_cable_105 rfl rfl g11 ?_
        exact ab_iret (ty := .int) d_M_cable_106 rfl rfl h
      by_cases c39 : v2 = 2
      · have h := h.2.2.1 c39
        refine ab_tabIn (tgt := 107) d_M_cable_25 (by rw [c39]; decide) (by rw [c39]; decide) (by rw [ab_tab_in (j := 2) c39 (by decide)]; rfl) (by decide) ?_
        refine ab_aload_n (i := 0) d_M_cable_107 rfl rfl ?_
        refine ab_iload_n (i := 1) d_M_cable_108 rfl rfl ?_
        have g13 := h.1; have h := h.2
        refine ab_callV (me2 := mt_M_priceOf) (b := mx) (as := [.int v1]) (st := []) (rv := (some (.int (I9 mx_now (51 + v1).toNatClampNeg)))) (M2 := (I9, L, ab_RR, n, nc, ns)) d_M_cable_109 ce_M_priceOf v_1654 v_1656 v_83 (by decide) rfl (Nat.le_of_ble_eq_true rfl) (cx_M_priceOf_0 v1 hT g13) (Nat.le_refl _) (Nat.le_refl _) hc hs (fun j h9 => by cases h9) (fun _ _ => rfl) ?_
        show ab_E w (d + 2) mt_M_cable 112 [.ref mx, .int v1, .int v2, .int r8] [.int (I9 mx_now (51 + v1).toNatClampNeg)] (I9, L, ab_RR, n, nc, ns) res
        exact ab_iret (ty := .int) d_M_cable_112 rfl rfl h
      by_cases c40 : v2 = 3
      · have h := h.2.2.2.1 c40
        refine ab_tabIn (tgt := 113) d_M_cable_25 (by rw [c40]; decide) (by rw [c40]; decide) (by rw [ab_tab_in (j := 3) c40 (by decide)]; rfl) (by decide) ?_
        refine ab_aload_n (i := 0) d_M_cable_113 rfl rfl ?_
        refine ab_getR (ci := 11) (k := 4) (j := mx_now) d_M_cable_114 v_1372 rfl (by decide) (by decide) rfl r_mx_4 ?_
        refine ab_bipush (v := 75) d_M_cable_117 rfl ?_
        refine ab_iload_n (i := 1) d_M_cable_119 rfl rfl ?_
        refine ab_iadd d_M_cable_120 ?_
        have g14 := h.1; have h := h.2
        refine ab_iald d_M_cable_121 rfl rfl g14 ?_
        exact ab_iret (ty := .int) d_M_cable_122 rfl rfl h
      by_cases c41 : v2 = 4
      · have h := h.2.2.2.2.1 c41
        refine ab_tabIn (tgt := 123) d_M_cable_25 (by rw [c41]; decide) (by rw [c41]; decide) (by rw [ab_tab_in (j := 4) c41 (by decide)]; rfl) (by decide) ?_
        refine ab_aload_n (i := 0) d_M_cable_123 rfl rfl ?_
        refine ab_iload_n (i := 1) d_M_cable_124 rfl rfl ?_
        by_cases c16 : (((I9 mx_now 1) >>> (v1 &&& 31)) &&& 1) = 1
        · have h := h.1 c16
          refine ab_callV (me2 := mt_M_isSound) (b := mx) (as := [.int v1]) (st := []) (rv := (some (.int 1))) (M2 := (I9, L, ab_RR, n, nc, ns)) d_M_cable_125 ce_M_isSound v_1679 v_1681 v_89 (by decide) rfl (Nat.le_of_ble_eq_true rfl) (cx_M_isSound_1 v1 hT (show (vp_in 1 399) from by unfold vp_in; decide) c16) (Nat.le_refl _) (Nat.le_refl _) hc hs (fun j h9 => by cases h9) (fun _ _ => rfl) ?_
          show ab_E w (d + 2) mt_M_cable 128 [.ref mx, .int v1, .int v2, .int r8] [.int 1] (I9, L, ab_RR, n, nc, ns) res
          refine ab_if_eq (tgt := 135) d_M_cable_128 (by decide) (fun c9 => absurd c9 (show ¬ (1 : Int32) = 0 from by decide)) (fun _ => ?_)
          refine ab_iconst (v := 1) d_M_cable_131 rfl ?_
          refine ab_goto (tgt := 136) d_M_cable_132 (by decide) ?_
          exact ab_iret (ty := .int) d_M_cable_136 rfl rfl h
        · have h := h.2 c16
          refine ab_callV (me2 := mt_M_isSound) (b := mx) (as := [.int v1]) (st := []) (rv := (some (.int 0))) (M2 := (I9, L, ab_RR, n, nc, ns)) d_M_cable_125 ce_M_isSound v_1679 v_1681 v_89 (by decide) rfl (Nat.le_of_ble_eq_true rfl) (cx_M_isSound_0 v1 hT (show (vp_in 1 399) from by unfold vp_in; decide) c16) (Nat.le_refl _) (Nat.le_refl _) hc hs (fun j h9 => by cases h9) (fun _ _ => rfl) ?_
          show ab_E w (d + 2) mt_M_cable 128 [.ref mx, .int v1, .int v2, .int r8] [.int 0] (I9, L, ab_RR, n, nc, ns) res
          refine ab_if_eq (tgt := 135) d_M_cable_128 (by decide) (fun _ => ?_) (fun c9 => absurd (show (0 : Int32) = 0 from by decide) c9)
          refine ab_iconst (v := 0) d_M_cable_135 rfl ?_
          exact ab_iret (ty := .int) d_M_cable_136 rfl rfl h
      by_cases c42 : v2 = 5
      · have h := h.2.2.2.2.2.1 c42
        refine ab_tabIn (tgt := 137) d_M_cable_25 (by rw [c42]; decide) (by rw [c42]; decide) (by rw [ab_tab_in (j := 5) c42 (by decide)]; rfl) (by decide) ?_
        refine ab_iload_n (i := 3) d_M_cable_137 rfl rfl ?_
        refine ab_iload_n (i := 1) d_M_cable_138 rfl rfl ?_
        by_cases c18 : ((r8 >>> (v1 &&& 31)) &&& 1) = 1
        · have h := h.1 c18
          refine ab_callS (me2 := mt_M_has) (as := [.int r8, .int v1]) (st := []) (rv := (some (.int 1))) (M2 := (I9, L, ab_RR, n, nc, ns)) d_M_cable_139 ce_M_has ⟨v_1648, Or.inl v_1647⟩ (Nat.le_of_ble_eq_true rfl) (cx_M_has_1 r8 v1 hT c18) (Nat.le_refl _) (Nat.le_refl _) hc hs (fun j h9 => by cases h9) (fun _ _ => rfl) ?_
          show ab_E w (d + 2) mt_M_cable 142 [.ref mx, .int v1, .int v2, .int r8] [.int 1] (I9, L, ab_RR, n, nc, ns) res
          refine ab_if_eq (tgt := 149) d_M_cable_142 (by decide) (fun c9 => absurd c9 (show ¬ (1 : Int32) = 0 from by decide)) (fun _ => ?_)
          refine ab_iconst (v := 1) d_M_cable_145 rfl ?_
          refine ab_goto (tgt := 150) d_M_cable_146 (by decide) ?_
          exact ab_iret (ty := .int) d_M_cable_150 rfl rfl h
        · have h := h.2 c18
          refine ab_callS (me2 := mt_M_has) (as := [.int r8, .int v1]) (st := []) (rv := (some (.int 0))) (M2 := (I9, L, ab_RR, n, nc, ns)) d_M_cable_139 ce_M_has ⟨v_1648, Or.inl v_1647⟩ (Nat.le_of_ble_eq_true rfl) (cx_M_has_0 r8 v1 hT c18) (Nat.le_refl _) (Nat.le_refl _) hc hs (fun j h9 => by cases h9) (fun _ _ => rfl) ?_
          show ab_E w (d + 2) mt_M_cable 142 [.ref mx, .int v1, .int v2, .int r8] [.int 0] (I9, L, ab_RR, n, nc, ns) res
          refine ab_if_eq (tgt := 149) d_M_cable_142 (by decide) (fun _ => ?_) (fun c9 => absurd (show (0 : Int32) = 0 from by decide) c9)
          refine ab_iconst (v := 0) d_M_cable_149 rfl ?_
          exact ab_iret (ty := .int) d_M_cable_150 rfl rfl h
      by_cases c43 : v2 = 6
      · have h := h.2.2.2.2.2.2.1 c43
        refine ab_tabIn (tgt := 151) d_M_cable_25 (by rw [c43]; decide) (by rw [c43]; decide) (by rw [ab_tab_in (j := 6) c43 (by decide)]; rfl) (by decide) ?_
        refine ab_aload_n (i := 0) d_M_cable_151 rfl rfl ?_
        refine ab_iload_n (i := 3) d_M_cable_152 rfl rfl ?_
        refine ab_iload_n (i := 1) d_M_cable_153 rfl rfl ?_
        obtain ⟨r19, I20, hC, h⟩ := h
        refine ab_callV (me2 := mt_M_tellRing) (b := mx) (as := [.int r8, .int v1]) (st := []) (rv := (some (.int r19))) (M2 := (I20, L, ab_RR, n, nc, ns)) d_M_cable_154 ce_M_tellRing v_1683 v_1685 v_90 (by decide) rfl (Nat.le_of_ble_eq_true rfl) hC (Nat.le_refl _) (Nat.le_refl _) hc hs (fun j h9 => by cases h9) (fun _ _ => rfl) ?_
        show ab_E w (d + 2) mt_M_cable 157 [.ref mx, .int v1, .int v2, .int r8] [.int r19] (I20, L, ab_RR, n, nc, ns) res
        exact ab_iret (ty := .int) d_M_cable_157 rfl rfl h
      by_cases c44 : v2 = 7
      · have h := h.2.2.2.2.2.2.2.1 c44
        refine ab_tabIn (tgt := 158) d_M_cable_25 (by rw [c44]; decide) (by rw [c44]; decide) (by rw [ab_tab_in (j := 7) c44 (by decide)]; rfl) (by decide) ?_
        refine ab_aload_n (i := 0) d_M_cable_158 rfl rfl ?_
        refine ab_iload_n (i := 3) d_M_cable_159 rfl rfl ?_
        refine ab_iload_n (i := 1) d_M_cable_160 rfl rfl ?_
        obtain ⟨r21, I22, hC, h⟩ := h
        refine ab_callV (me2 := mt_M_tellRing) (b := mx) (as := [.int r8, .int v1]) (st := []) (rv := (some (.int r21))) (M2 := (I22, L, ab_RR, n, nc, ns)) d_M_cable_161 ce_M_tellRing v_1683 v_1685 v_90 (by decide) rfl (Nat.le_of_ble_eq_true rfl) hC (Nat.le_refl _) (Nat.le_refl _) hc hs (fun j h9 => by cases h9) (fun _ _ => rfl) ?_
        show ab_E w (d + 2) mt_M_cable 164 [.ref mx, .int v1, .int v2, .int r8] [.int r21] (I22, L, ab_RR, n, nc, ns) res
        refine ab_if_ne (tgt := 171) d_M_cable_164 (by decide) (fun c23 => ?_) (fun c23 => ?_)
        · have h := h.1 c23
          refine ab_aload_n (i := 0) d_M_cable_171 rfl rfl ?_
          obtain ⟨r24, hC, h⟩ := h
          refine ab_callV (me2 := mt_M_dearestOnWay) (b := mx) (as := []) (st := []) (rv := (some (.int r24))) (M2 := (I22, L, ab_RR, n, nc, ns)) d_M_cable_172 ce_M_dearestOnWay v_1695 v_1697 v_93 (by decide) rfl (Nat.le_of_ble_eq_true rfl) hC (Nat.le_refl _) (Nat.le_refl _) hc hs (fun j h9 => by cases h9) (fun _ _ => rfl) ?_
          show ab_E w (d + 2) mt_M_cable 175 [.ref mx, .int v1, .int v2, .int r8] [.int r24] (I22, L, ab_RR, n, nc, ns) res
          exact ab_iret (ty := .int) d_M_cable_175 rfl rfl h
        · have h := h.2 c23
          refine ab_iconst (v := (-1)) d_M_cable_167 rfl ?_
          refine ab_goto (tgt := 175) d_M_cable_168 (by decide) ?_
          exact ab_iret (ty := .int) d_M_cable_175 rfl rfl h
      by_cases c45 : v2 = 8
      · have h := h.2.2.2.2.2.2.2.2.1 c45
        refine ab_tabIn (tgt := 176) d_M_cable_25 (by rw [c45]; decide) (by rw [c45]; decide) (by rw [ab_tab_in (j := 8) c45 (by decide)]; rfl) (by decide) ?_
        refine ab_aload_n (i := 0) d_M_cable_176 rfl rfl ?_
        refine ab_iload_n (i := 3) d_M_cable_177 rfl rfl ?_
        refine ab_iload_n (i := 1) d_M_cable_178 rfl rfl ?_
        obtain ⟨r25, I26, hC, h⟩ := h
        refine ab_callV (me2 := mt_M_cutOf) (b := mx) (as := [.int r8, .int v1]) (st := []) (rv := (some (.int r25))) (M2 := (I26, L, ab_RR, n, nc, ns)) d_M_cable_179 ce_M_cutOf v_1755 v_1757 v_106 (by decide) rfl (Nat.le_of_ble_eq_true rfl) hC (Nat.le_refl _) (Nat.le_refl _) hc hs (fun j h9 => by cases h9) (fun _ _ => rfl) ?_
        show ab_E w (d + 2) mt_M_cable 182 [.ref mx, .int v1, .int v2, .int r8] [.int r25] (I26, L, ab_RR, n, nc, ns) res
        exact ab_iret (ty := .int) d_M_cable_182 rfl rfl h
      by_cases c46 : v2 = 9
      · have h := h.2.2.2.2.2.2.2.2.2.1 c46
        refine ab_tabIn (tgt := 183) d_M_cable_25 (by rw [c46]; decide) (by rw [c46]; decide) (by rw [ab_tab_in (j := 9) c46 (by decide)]; rfl) (by decide) ?_
        refine ab_aload_n (i := 0) d_M_cable_183 rfl rfl ?_
        refine ab_iload_n (i := 3) d_M_cable_184 rfl rfl ?_
        refine ab_iload_n (i := 1) d_M_cable_185 rfl rfl ?_
        obtain ⟨r27, I28, hC, h⟩ := h
        refine ab_callV (me2 := mt_M_rivalOf) (b := mx) (as := [.int r8, .int v1]) (st := []) (rv := (some (.int r27))) (M2 := (I28, L, ab_RR, n, nc, ns)) d_M_cable_186 ce_M_rivalOf v_1759 v_1761 v_107 (by decide) rfl (Nat.le_of_ble_eq_true rfl) hC (Nat.le_refl _) (Nat.le_refl _) hc hs (fun j h9 => by cases h9) (fun _ _ => rfl) ?_
        show ab_E w (d + 2) mt_M_cable 189 [.ref mx, .int v1, .int v2, .int r8] [.int r27] (I28, L, ab_RR, n, nc, ns) res
        exact ab_iret (ty := .int) d_M_cable_189 rfl rfl h
      by_cases c47 : v2 = 10
      · have h := h.2.2.2.2.2.2.2.2.2.2.1 c47
        refine ab_tabIn (tgt := 190) d_M_cable_25 (by rw [c47]; decide) (by rw [c47]; decide) (by rw [ab_tab_in (j := 10) c47 (by decide)]; rfl) (by decide) ?_
        refine ab_aload_n (i := 0) d_M_cable_190 rfl rfl ?_
        refine ab_iload_n (i := 1) d_M_cable_191 rfl rfl ?_
        obtain ⟨r29, I30, hC, h⟩ := h
        refine ab_callV (me2 := mt_M_barOf) (b := mx) (as := [.int v1]) (st := []) (rv := (some (.int r29))) (M2 := (I30, L, ab_RR, n, nc, ns)) d_M_cable_192 ce_M_barOf v_1763 v_1765 v_108 (by decide) rfl (Nat.le_of_ble_eq_true rfl) hC (Nat.le_refl _) (Nat.le_refl _) hc hs (fun j h9 => by cases h9) (fun _ _ => rfl) ?_
        show ab_E w (d + 2) mt_M_cable 195 [.ref mx, .int v1, .int v2, .int r8] [.int r29] (I30, L, ab_RR, n, nc, ns) res
        exact ab_iret (ty := .int) d_M_cable_195 rfl rfl h
      by_cases c48 : v2 = 11
      · have h := h.2.2.2.2.2.2.2.2.2.2.2.1 c48
        refine ab_tabIn (tgt := 196) d_M_cable_25 (by rw [c48]; decide) (by rw [c48]; decide) (by rw [ab_tab_in (j := 11) c48 (by decide)]; rfl) (by decide) ?_
        refine ab_aload_n (i := 0) d_M_cable_196 rfl rfl ?_
        refine ab_iload_n (i := 1) d_M_cable_197 rfl rfl ?_
        by_cases c32 : (((I9 mx_now 1) >>> (v1 &&& 31)) &&& 1) = 1
        · have h := h.1 c32
          refine ab_callV (me2 := mt_M_isSound) (b := mx) (as := [.int v1]) (st := []) (rv := (some (.int 1))) (M2 := (I9, L, ab_RR, n, nc, ns)) d_M_cable_198 ce_M_isSound v_1679 v_1681 v_89 (by decide) rfl (Nat.le_of_ble_eq_true rfl) (cx_M_isSound_1 v1 hT (show (vp_in 1 399) from by unfold vp_in; decide) c32) (Nat.le_refl _) (Nat.le_refl _) hc hs (fun j h9 => by cases h9) (fun _ _ => rfl) ?_
          show ab_E w (d + 2) mt_M_cable 201 [.ref mx, .int v1, .int v2, .int r8] [.int 1] (I9, L, ab_RR, n, nc, ns) res
          refine ab_if_eq (tgt := 214) d_M_cable_201 (by decide) (fun c9 => absurd c9 (show ¬ (1 : Int32) = 0 from by decide)) (fun _ => ?_)
          refine ab_aload_n (i := 0) d_M_cable_204 rfl rfl ?_
          refine ab_iconst (v := 1) d_M_cable_205 rfl ?_
          refine ab_iload_n (i := 1) d_M_cable_206 rfl rfl ?_
          refine ab_ishl d_M_cable_207 ?_
          obtain ⟨r33, I34, hC, h⟩ := h
          refine ab_callV (me2 := mt_M_lossOf) (b := mx) (as := [.int ((1 : Int32) <<< (v1 &&& 31))]) (st := []) (rv := (some (.int r33))) (M2 := (I34, L, ab_RR, n, nc, ns)) d_M_cable_208 ce_M_lossOf v_1767 v_1769 v_109 (by decide) rfl (Nat.le_of_ble_eq_true rfl) hC (Nat.le_refl _) (Nat.le_refl _) hc hs (fun j h9 => by cases h9) (fun _ _ => rfl) ?_
          show ab_E w (d + 2) mt_M_cable 211 [.ref mx, .int v1, .int v2, .int r8] [.int r33] (I34, L, ab_RR, n, nc, ns) res
          refine ab_goto (tgt := 215) d_M_cable_211 (by decide) ?_
          exact ab_iret (ty := .int) d_M_cable_215 rfl rfl h
        · have h := h.2 c32
          refine ab_callV (me2 := mt_M_isSound) (b := mx) (as := [.int v1]) (st := []) (rv := (some (.int 0))) (M2 := (I9, L, ab_RR, n, nc, ns)) d_M_cable_198 ce_M_isSound v_1679 v_1681 v_89 (by decide) rfl (Nat.le_of_ble_eq_true rfl) (cx_M_isSound_0 v1 hT (show (vp_in 1 399) from by unfold vp_in; decide) c32) (Nat.le_refl _) (Nat.le_refl _) hc hs (fun j h9 => by cases h9) (fun _ _ => rfl) ?_
          show ab_E w (d + 2) mt_M_cable 201 [.ref mx, .int v1, .int v2, .int r8] [.int 0] (I9, L, ab_RR, n, nc, ns) res
          refine ab_if_eq (tgt := 214) d_M_cable_201 (by decide) (fun _ => ?_) (fun c9 => absurd (show (0 : Int32) = 0 from by decide) c9)
          refine ab_iconst (v := (-1)) d_M_cable_214 rfl ?_
          exact ab_iret (ty := .int) d_M_cable_215 rfl rfl h
      have hr : v2.toInt < 0 ∨ 11 < v2.toInt := by
        rcases Int.lt_or_le v2.toInt 0 with h9 | h9
        · exact Or.inl h9
        · refine Or.inr (Int.not_le.mp fun h8 => ?_)
          exact ab_tab_out (lo := 0) (hi := 11) (k := 12) h9 h8 (by decide) (by
            intro j hj
            match j, hj with
            | 0, _ => exact c37
            | 1, _ => exact c38
            | 2, _ => exact c39
            | 3, _ => exact c40
            | 4, _ => exact c41
            | 5, _ => exact c42
            | 6, _ => exact c43
            | 7, _ => exact c44
            | 8, _ => exact c45
            | 9, _ => exact c46
            | 10, _ => exact c47
            | 11, _ => exact c48
            | j9 + 12, hj => exact absurd hj (by omega))
      have h := h.2.2.2.2.2.2.2.2.2.2.2.2 hr
      refine ab_tabOut (tgt := 216) d_M_cable_25 hr (by decide) ?_
      refine ab_aload_n (i := 0) d_M_cable_216 rfl rfl ?_
      refine ab_iconst (v := 1) d_M_cable_217 rfl ?_
      refine ab_callV (me2 := mt_M_fail) (b := mx) (as := [.int 1]) (st := []) (rv := (some (.int 0))) (M2 := ((ab_up I9 mx 1 1), L, ab_RR, n, nc, ns)) d_M_cable_218 ce_M_fail v_1562 v_1564 v_66 (by decide) rfl (Nat.le_of_ble_eq_true rfl) (cx_M_fail_0 1 hT) (Nat.le_refl _) (Nat.le_refl _) hc hs (fun j h9 => by cases h9) (fun _ _ => rfl) ?_
      show ab_E w (d + 2) mt_M_cable 221 [.ref mx, .int v1, .int v2, .int r8] [.int 0] ((ab_up I9 mx 1 1), L, ab_RR, n, nc, ns) res
      exact ab_iret (ty := .int) d_M_cable_221 rfl rfl h
theorem r_M_ring_0 {w : ab_Wd} {d n nc ns : Nat} {I : Nat → Nat → Int32} {L : Nat → Nat → Int64} {res : ab_Re} (hT : w.1.stackTraces = false) (v1 : Int32) (v2 : Int32) (hc : nc ≤ res.2.2.2.2.2.1) (hs : ns ≤ res.2.2.2.2.2.2)
    (h : ((v1 < 0 → (res = (.inl (some (.int 0)), ((ab_up (ab_up I mx 1 0) mx 1 1), L, ab_RR, n, nc, ns)))) ∧ (¬ v1 < 0 → ((((I mx_now 0) - 1) < v1 → (res = (.inl (some (.int 0)), ((ab_up (ab_up I mx 1 0) mx 1 1), L, ab_RR, n, nc, ns)))) ∧ (¬ ((I mx_now 0) - 1) < v1 → (∃ (r8 : Int32) (I9 : Nat → Nat → Int32), ab_C w (d + 1) mt_M_netNow [.ref mx] ((ab_up I mx 1 0), L, ab_RR, n, nc, ns) (.inl (some (.int r8)), (I9, L, ab_RR, n, nc, ns)) ∧ ∃ (r10 : Int32) (I11 : Nat → Nat → Int32), ab_C w (d + 1) mt_M_tellRing [.ref mx, .int r8, .int v1] (I9, L, ab_RR, n, nc, ns) (.inl (some (.int r10)), (I11, L, ab_RR, n, nc, ns)) ∧ ((v2 < 0 → (res = (.inl (some (.int 0)), ((ab_up I11 mx 1 1), L, ab_RR, n, nc, ns)))) ∧ (¬ v2 < 0 → (((r10 - 1) < v2 → (res = (.inl (some (.int 0)), ((ab_up I11 mx 1 1), L, ab_RR, n, nc, ns)))) ∧ (¬ (r10 - 1) < v2 → ((vp_in v2 10) ∧ res = (.inl (some (.int (I11 mx_way v2.toNatClampNeg))), (I11, L, ab_RR, n, nc, ns))))))))))))) : ab_E w (d + 2) mt_M_ring 0 [.ref mx, .int v1, .int v2] [] (I, L, ab_RR, n, nc, ns) res := by
  refine ab_aload_n (i := 0) d_M_ring_0 rfl rfl ?_
  refine ab_iconst (v := 0) d_M_ring_1 rfl ?_
  refine ab_putI (ci := 11) (k := 1) d_M_ring_2 v_1369 rfl (by decide) (by decide) rfl (Or.inl rfl) rfl rfl ?_
  refine ab_aload_n (i := 0) d_M_ring_5 rfl rfl ?_
  refine ab_iload_n (i := 1) d_M_ring_6 rfl rfl ?_
  by_cases c2 : v1 < 0
  · have h := h.1 c2
    refine ab_callV (me2 := mt_M_isCable) (b := mx) (as := [.int v1]) (st := []) (rv := (some (.int 0))) (M2 := ((ab_up I mx 1 0), L, ab_RR, n, nc, ns)) d_M_ring_7 ce_M_isCable v_1748 v_1750 v_105 (by decide) rfl (Nat.le_of_ble_eq_true rfl) (cx_M_isCable_0 v1 hT (show (vp_in 0 399) from by unfold vp_in; decide) c2) (Nat.le_refl _) (Nat.le_refl _) hc hs (fun j h9 => by cases h9) (fun _ _ => rfl) ?_
    show ab_E w (d + 2) mt_M_ring 10 [.ref mx, .int v1, .int v2] [.int 0] ((ab_up I mx 1 0), L, ab_RR, n, nc, ns) res
    refine ab_if_ne (tgt := 19) d_M_ring_10 (by decide) (fun c9 => absurd (show (0 : Int32) = 0 from by decide) c9) (fun _ => ?_)
    refine ab_aload_n (i := 0) d_M_ring_13 rfl rfl ?_
    refine ab_iconst (v := 1) d_M_ring_14 rfl ?_
    refine ab_callV (me2 := mt_M_fail) (b := mx) (as := [.int 1]) (st := []) (rv := (some (.int 0))) (M2 := ((ab_up (ab_up I mx 1 0) mx 1 1), L, ab_RR, n, nc, ns)) d_M_ring_15 ce_M_fail v_1562 v_1564 v_66 (by decide) rfl (Nat.le_of_ble_eq_true rfl) (cx_M_fail_0 1 hT) (Nat.le_refl _) (Nat.le_refl _) hc hs (fun j h9 => by cases h9) (fun _ _ => rfl) ?_
    show ab_E w (d + 2) mt_M_ring 18 [.ref mx, .int v1, .int v2] [.int 0] ((ab_up (ab_up I mx 1 0) mx 1 1), L, ab_RR, n, nc, ns) res
    exact ab_iret (ty := .int) d_M_ring_18 rfl rfl h
  · have h := h.2 c2
    by_cases c5 : ((I mx_now 0) - 1) < v1
    · have h := h.1 c5
      refine ab_callV (me2 := mt_M_isCable) (b := mx) (as := [.int v1]) (st := []) (rv := (some (.int 0))) (M2 := ((ab_up I mx 1 0), L, ab_RR, n, nc, ns)) d_M_ring_7 ce_M_isCable v_1748 v_1750 v_105 (by decide) rfl (Nat.le_of_ble_eq_true rfl) (cx_M_isCable_1 v1 hT (show (vp_in 0 399) from by unfold vp_in; decide) c2 c5) (Nat.le_refl _) (Nat.le_refl _) hc hs (fun j h9 => by cases h9) (fun _ _ => rfl) ?_
      show ab_E w (d + 2) mt_M_ring 10 [.ref mx, .int v1, .int v2] [.int 0] ((ab_up I mx 1 0), L, ab_RR, n, nc, ns) res
      refine ab_if_ne (tgt := 19) d_M_ring_10 (by decide) (fun c9 => absurd (show (0 : Int32) = 0 from by decide) c9) (fun _ => ?_)
      refine ab_aload_n (i := 0) d_M_ring_13 rfl rfl ?_
      refine ab_iconst (v := 1) d_M_ring_14 rfl ?_
      refine ab_callV (me2 := mt_M_fail) (b := mx) (as := [.int 1]) (st := []) (rv := (some (.int 0))) (M2 := ((ab_up (ab_up I mx 1 0) mx 1 1), L, ab_RR, n, nc, ns)) d_M_ring_15 ce_M_fail v_1562 v_1564 v_66 (by decide) rfl (Nat.le_of_ble_eq_true rfl) (cx_M_fail_0 1 hT) (Nat.le_refl _) (Nat.le_refl _) hc hs (fun j h9 => by cases h9) (fun _ _ => rfl) ?_
      show ab_E w (d + 2) mt_M_ring 18 [.ref mx, .int v1, .int v2] [.int 0] ((ab_up (ab_up I mx 1 0) mx 1 1), L, ab_RR, n, nc, ns) res
      exact ab_iret (ty := .int) d_M_ring_18 rfl rfl h
    · have h := h.2 c5
      refine ab_callV (me2 := mt_M_isCable) (b := mx) (as := [.int v1]) (st := []) (rv := (some (.int 1))) (M2 := ((ab_up I mx 1 0), L, ab_RR, n, nc, ns)) d_M_ring_7 ce_M_isCable v_1748 v_1750 v_105 (by decide) rfl (Nat.le_of_ble_eq_true rfl) (cx_M_isCable_2 v1 hT (show (vp_in 0 399) from by unfold vp_in; decide) c2 c5) (Nat.le_refl _) (Nat.le_refl _) hc hs (fun j h9 => by cases h9) (fun _ _ => rfl) ?_
      show ab_E w (d + 2) mt_M_ring 10 [.ref mx, .int v1, .int v2] [.int 1] ((ab_up I mx 1 0), L, ab_RR, n, nc, ns) res
      refine ab_if_ne (tgt := 19) d_M_ring_10 (by decide) (fun _ => ?_) (fun c9 => absurd c9 (show ¬ (1 : Int32) = 0 from by decide))
      refine ab_iload_n (i := 2) d_M_ring_19 rfl rfl ?_
      refine ab_iconst (v := 0) d_M_ring_20 rfl ?_
      refine ab_aload_n (i := 0) d_M_ring_21 rfl rfl ?_
      refine ab_aload_n (i := 0) d_M_ring_22 rfl rfl ?_
      obtain ⟨r8, I9, hC, h⟩ := h
      refine ab_callV (me2 := mt_M_netNow) (b := mx) (as := []) (st := [.ref mx, .int 0, .int v2]) (rv := (some (.int r8))) (M2 := (I9, L, ab_RR, n, nc, ns)) d_M_ring_23 ce_M_netNow v_1639 v_1641 v_80 (by decide) rfl (Nat.le_of_ble_eq_true rfl) hC (Nat.le_refl _) (Nat.le_refl _) hc hs (fun j h9 => by cases h9) (fun _ _ => rfl) ?_
      show ab_E w (d + 2) mt_M_ring 26 [.ref mx, .int v1, .int v2] [.int r8, .ref mx, .int 0, .int v2] (I9, L, ab_RR, n, nc, ns) res
      refine ab_iload_n (i := 1) d_M_ring_26 rfl rfl ?_
      obtain ⟨r10, I11, hC, h⟩ := h
      refine ab_callV (me2 := mt_M_tellRing) (b := mx) (as := [.int r8, .int v1]) (st := [.int 0, .int v2]) (rv := (some (.int r10))) (M2 := (I11, L, ab_RR, n, nc, ns)) d_M_ring_27 ce_M_tellRing v_1683 v_1685 v_90 (by decide) rfl (Nat.le_of_ble_eq_true rfl) hC (Nat.le_refl _) (Nat.le_refl _) hc hs (fun j h9 => by cases h9) (fun _ _ => rfl) ?_
      show ab_E w (d + 2) mt_M_ring 30 [.ref mx, .int v1, .int v2] [.int r10, .int 0, .int v2] (I11, L, ab_RR, n, nc, ns) res
      refine ab_iconst (v := 1) d_M_ring_30 rfl ?_
      refine ab_isub d_M_ring_31 ?_
      by_cases c13 : v2 < 0
      · have h := h.1 c13
        refine ab_callS (me2 := mt_M_isIn) (as := [.int v2, .int 0, .int (r10 - 1)]) (st := []) (rv := (some (.int 0))) (M2 := (I11, L, ab_RR, n, nc, ns)) d_M_ring_32 ce_M_isIn ⟨v_1753, Or.inl v_1752⟩ (Nat.le_of_ble_eq_true rfl) (cx_M_isIn_0 v2 0 (r10 - 1) hT c13) (Nat.le_refl _) (Nat.le_refl _) hc hs (fun j h9 => by cases h9) (fun _ _ => rfl) ?_
        show ab_E w (d + 2) mt_M_ring 35 [.ref mx, .int v1, .int v2] [.int 0] (I11, L, ab_RR, n, nc, ns) res
        refine ab_if_eq (tgt := 47) d_M_ring_35 (by decide) (fun _ => ?_) (fun c9 => absurd (show (0 : Int32) = 0 from by decide) c9)
        refine ab_aload_n (i := 0) d_M_ring_47 rfl rfl ?_
        refine ab_iconst (v := 1) d_M_ring_48 rfl ?_
        refine ab_callV (me2 := mt_M_fail) (b := mx) (as := [.int 1]) (st := []) (rv := (some (.int 0))) (M2 := ((ab_up I11 mx 1 1), L, ab_RR, n, nc, ns)) d_M_ring_49 ce_M_fail v_1562 v_1564 v_66 (by decide) rfl (Nat.le_of_ble_eq_true rfl) (cx_M_fail_0 1 hT) (Nat.le_refl _) (Nat.le_refl _) hc hs (fun j h9 => by cases h9) (fun _ _ => rfl) ?_
        show ab_E w (d + 2) mt_M_ring 52 [.ref mx, .int v1, .int v2] [.int 0] ((ab_up I11 mx 1 1), L, ab_RR, n, nc, ns) res
        exact ab_iret (ty := .int) d_M_ring_52 rfl rfl h
      · have h := h.2 c13
        by_cases c16 : (r10 - 1) < v2
        · have h := h.1 c16
          refine ab_callS (me2 := mt_M_isIn) (as := [.int v2, .int 0, .int (r10 - 1)]) (st := []) (rv := (some (.int 0))) (M2 := (I11, L, ab_RR, n, nc, ns)) d_M_ring_32 ce_M_isIn ⟨v_1753, Or.inl v_1752⟩ (Nat.le_of_ble_eq_true rfl) (cx_M_isIn_1 v2 0 (r10 - 1) hT c13 c16) (Nat.le_refl _) (Nat.le_refl _) hc hs (fun j h9 => by cases h9) (fun _ _ => rfl) ?_
          show ab_E w (d + 2) mt_M_ring 35 [.ref mx, .int v1, .int v2] [.int 0] (I11, L, ab_RR, n, nc, ns) res
          refine ab_if_eq (tgt := 47) d_M_ring_35 (by decide) (fun _ => ?_) (fun c9 => absurd (show (0 : Int32) = 0 from by decide) c9)
          refine ab_aload_n (i := 0) d_M_ring_47 rfl rfl ?_
          refine ab_iconst (v := 1) d_M_ring_48 rfl ?_
          refine ab_callV (me2 := mt_M_fail) (b := mx) (as := [.int 1]) (st := []) (rv := (some (.int 0))) (M2 := ((ab_up I11 mx 1 1), L, ab_RR, n, nc, ns)) d_M_ring_49 ce_M_fail v_1562 v_1564 v_66 (by decide) rfl (Nat.le_of_ble_eq_true rfl) (cx_M_fail_0 1 hT) (Nat.le_refl _) (Nat.le_refl _) hc hs (fun j h9 => by cases h9) (fun _ _ => rfl) ?_
          show ab_E w (d + 2) mt_M_ring 52 [.ref mx, .int v1, .int v2] [.int 0] ((ab_up I11 mx 1 1), L, ab_RR, n, nc, ns) res
          exact ab_iret (ty := .int) d_M_ring_52 rfl rfl h
        · have h := h.2 c16
          refine ab_callS (me2 := mt_M_isIn) (as := [.int v2, .int 0, .int (r10 - 1)]) (st := []) (rv := (some (.int 1))) (M2 := (I11, L, ab_RR, n, nc, ns)) d_M_ring_32 ce_M_isIn ⟨v_1753, Or.inl v_1752⟩ (Nat.le_of_ble_eq_true rfl) (cx_M_isIn_2 v2 0 (r10 - 1) hT c13 c16) (Nat.le_refl _) (Nat.le_refl _) hc hs (fun j h9 => by cases h9) (fun _ _ => rfl) ?_
          show ab_E w (d + 2) mt_M_ring 35 [.ref mx, .int v1, .int v2] [.int 1] (I11, L, ab_RR, n, nc, ns) res
          refine ab_if_eq (tgt := 47) d_M_ring_35 (by decide) (fun c9 => absurd c9 (show ¬ (1 : Int32) = 0 from by decide)) (fun _ => ?_)
          refine ab_aload_n (i := 0) d_M_ring_38 rfl rfl ?_
          refine ab_getR (ci := 11) (k := 23) (j := mx_way) d_M_ring_39 v_1391 rfl (by decide) (by decide) rfl r_mx_23 ?_
          refine ab_iload_n (i := 2) d_M_ring_42 rfl rfl ?_
          have g19 := h.1; have h := h.2
          refine ab_iald d_M_ring_43 rfl rfl g19 ?_
          refine ab_goto (tgt := 52) d_M_ring_44 (by decide) ?_
          exact ab_iret (ty := .int) d_M_ring_52 rfl rfl h
theorem r_M_taken_0 {w : ab_Wd} {d n nc ns : Nat} {I : Nat → Nat → Int32} {L : Nat → Nat → Int64} {res : ab_Re} (hT : w.1.stackTraces = false) (v1 : Int32) (hc : nc ≤ res.2.2.2.2.2.1) (hs : ns ≤ res.2.2.2.2.2.2)
    (h : ∃ (r1 : Int32) (I2 : Nat → Nat → Int32), ab_C w d mt_M_netNow [.ref mx] ((ab_up I mx 1 0), L, ab_RR, n, nc, ns) (.inl (some (.int r1)), (I2, L, ab_RR, n, nc, ns)) ∧ ((v1 < 0 → (res = (.inl (some (.int 0)), ((ab_up I2 mx 1 1), L, ab_RR, n, nc, ns)))) ∧ (¬ v1 < 0 → ((((I2 mx 21) - 1) < v1 → (res = (.inl (some (.int 0)), ((ab_up I2 mx 1 1), L, ab_RR, n, nc, ns)))) ∧ (¬ ((I2 mx 21) - 1) < v1 → ((vp_in v1 24) ∧ res = (.inl (some (.int (I2 mx_taken v1.toNatClampNeg))), (I2, L, ab_RR, n, nc, ns)))))))) : ab_E w (d + 1) mt_M_taken 0 [.ref mx, .int v1, .null] [] (I, L, ab_RR, n, nc, ns) res := by
  refine ab_aload_n (i := 0) d_M_taken_0 rfl rfl ?_
  refine ab_iconst (v := 0) d_M_taken_1 rfl ?_
  refine ab_putI (ci := 11) (k := 1) d_M_taken_2 v_1369 rfl (by decide) (by decide) rfl (Or.inl rfl) rfl rfl ?_
  refine ab_aload_n (i := 0) d_M_taken_5 rfl rfl ?_
  obtain ⟨r1, I2, hC, h⟩ := h
  refine ab_callV (me2 := mt_M_netNow) (b := mx) (as := []) (st := []) (rv := (some (.int r1))) (M2 := (I2, L, ab_RR, n, nc, ns)) d_M_taken_6 ce_M_netNow v_1639 v_1641 v_80 (by decide) rfl (Nat.le_of_ble_eq_true rfl) hC (Nat.le_refl _) (Nat.le_refl _) hc hs (fun j h9 => by cases h9) (fun _ _ => rfl) ?_
  show ab_E w (d + 1) mt_M_taken 9 [.ref mx, .int v1, .null] [.int r1] (I2, L, ab_RR, n, nc, ns) res
  refine ab_istore_n (i := 2) d_M_taken_9 rfl (by decide) (Or.inr rfl) ?_
  refine ab_iload_n (i := 1) d_M_taken_10 rfl rfl ?_
  refine ab_iconst (v := 0) d_M_taken_11 rfl ?_
  refine ab_aload_n (i := 0) d_M_taken_12 rfl rfl ?_
  refine ab_getI (ci := 11) (k := 21) d_M_taken_13 v_1389 rfl (by decide) (by decide) rfl ?_
  refine ab_iconst (v := 1) d_M_taken_16 rfl ?_
  refine ab_isub d_M_taken_17 ?_
  by_cases c4 : v1 < 0
  · have h := h.1 c4
    refine ab_callS (me2 := mt_M_isIn) (as := [.int v1, .int 0, .int ((I2 mx 21) - 1)]) (st := []) (rv := (some (.int 0))) (M2 := (I2, L, ab_RR, n, nc, ns)) d_M_taken_18 ce_M_isIn ⟨v_1753, Or.inl v_1752⟩ (Nat.le_of_ble_eq_true rfl) (cx_M_isIn_0 v1 0 ((I2 mx 21) - 1) hT c4) (Nat.le_refl _) (Nat.le_refl _) hc hs (fun j h9 => by cases h9) (fun _ _ => rfl) ?_
    show ab_E w (d + 1) mt_M_taken 21 [.ref mx, .int v1, .int r1] [.int 0] (I2, L, ab_RR, n, nc, ns) res
    refine ab_if_eq (tgt := 33) d_M_taken_21 (by decide) (fun _ => ?_) (fun c9 => absurd (show (0 : Int32) = 0 from by decide) c9)
    refine ab_aload_n (i := 0) d_M_taken_33 rfl rfl ?_
    refine ab_iconst (v := 1) d_M_taken_34 rfl ?_
    refine ab_callV (me2 := mt_M_fail) (b := mx) (as := [.int 1]) (st := []) (rv := (some (.int 0))) (M2 := ((ab_up I2 mx 1 1), L, ab_RR, n, nc, ns)) d_M_taken_35 ce_M_fail v_1562 v_1564 v_66 (by decide) rfl (Nat.le_of_ble_eq_true rfl) (cx_M_fail_0 1 hT) (Nat.le_refl _) (Nat.le_refl _) hc hs (fun j h9 => by cases h9) (fun _ _ => rfl) ?_
    show ab_E w (d + 1) mt_M_taken 38 [.ref mx, .int v1, .int r1] [.int 0] ((ab_up I2 mx 1 1), L, ab_RR, n, nc, ns) res
    exact ab_iret (ty := .int) d_M_taken_38 rfl rfl h
  · have h := h.2 c4
    by_cases c7 : ((I2 mx 21) - 1) < v1
    · have h := h.1 c7
      refine ab_callS (me2 := mt_M_isIn) (as := [.int v1, .int 0, .int ((I2 mx 21) - 1)]) (st := []) (rv := (some (.int 0))) (M2 := (I2, L, ab_RR, n, nc, ns)) d_M_taken_18 ce_M_isIn ⟨v_1753, Or.inl v_1752⟩ (Nat.le_of_ble_eq_true rfl) (cx_M_isIn_1 v1 0 ((I2 mx 21) - 1) hT c4 c7) (Nat.le_refl _) (Nat.le_refl _) hc hs (fun j h9 => by cases h9) (fun _ _ => rfl) ?_
      show ab_E w (d + 1) mt_M_taken 21 [.ref mx, .int v1, .int r1] [.int 0] (I2, L, ab_RR, n, nc, ns) res
      refine ab_if_eq (tgt := 33) d_M_taken_21 (by decide) (fun _ => ?_) (fun c9 => absurd (show (0 : Int32) = 0 from by decide) c9)
      refine ab_aload_n (i := 0) d_M_taken_33 rfl rfl ?_
      refine ab_iconst (v := 1) d_M_taken_34 rfl ?_
      refine ab_callV (me2 := mt_M_fail) (b := mx) (as := [.int 1]) (st := []) (rv := (some (.int 0))) (M2 := ((ab_up I2 mx 1 1), L, ab_RR, n, nc, ns)) d_M_taken_35 ce_M_fail v_1562 v_1564 v_66 (by decide) rfl (Nat.le_of_ble_eq_true rfl) (cx_M_fail_0 1 hT) (Nat.le_refl _) (Nat.le_refl _) hc hs (fun j h9 => by cases h9) (fun _ _ => rfl) ?_
      show ab_E w (d + 1) mt_M_taken 38 [.ref mx, .int v1, .int r1] [.int 0] ((ab_up I2 mx 1 1), L, ab_RR, n, nc, ns) res
      exact ab_iret (ty := .int) d_M_taken_38 rfl rfl h
    · have h := h.2 c7
      refine ab_callS (me2 := mt_M_isIn) (as := [.int v1, .int 0, .int ((I2 mx 21) - 1)]) (st := []) (rv := (some (.int 1))) (M2 := (I2, L, ab_RR, n, nc, ns)) d_M_taken_18 ce_M_isIn ⟨v_1753, Or.inl v_1752⟩ (Nat.le_of_ble_eq_true rfl) (cx_M_isIn_2 v1 0 ((I2 mx 21) - 1) hT c4 c7) (Nat.le_refl _) (Nat.le_refl _) hc hs (fun j h9 => by cases h9) (fun _ _ => rfl) ?_
      show ab_E w (d + 1) mt_M_taken 21 [.ref mx, .int v1, .int r1] [.int 1] (I2, L, ab_RR, n, nc, ns) res
      refine ab_if_eq (tgt := 33) d_M_taken_21 (by decide) (fun c9 => absurd c9 (show ¬ (1 : Int32) = 0 from by decide)) (fun _ => ?_)
      refine ab_aload_n (i := 0) d_M_taken_24 rfl rfl ?_
      refine ab_getR (ci := 11) (k := 20) (j := mx_taken) d_M_taken_25 v_1388 rfl (by decide) (by decide) rfl r_mx_20 ?_
      refine ab_iload_n (i := 1) d_M_taken_28 rfl rfl ?_
      have g10 := h.1; have h := h.2
      refine ab_iald d_M_taken_29 rfl rfl g10 ?_
      refine ab_goto (tgt := 38) d_M_taken_30 (by decide) ?_
      exact ab_iret (ty := .int) d_M_taken_38 rfl rfl h
theorem r_M_site_0 {w : ab_Wd} {d n nc ns : Nat} {I : Nat → Nat → Int32} {L : Nat → Nat → Int64} {res : ab_Re} (hT : w.1.stackTraces = false) (v1 : Int32) (v2 : Int32) (hc : nc ≤ res.2.2.2.2.2.1) (hs : ns ≤ res.2.2.2.2.2.2)
    (h : ((v1 < 0 → (res = (.inl (some (.int 0)), ((ab_up (ab_up I mx 1 0) mx 1 1), L, ab_RR, n, nc, ns)))) ∧ (¬ v1 < 0 → ((((I mx 2) - 1) < v1 → (res = (.inl (some (.int 0)), ((ab_up (ab_up I mx 1 0) mx 1 1), L, ab_RR, n, nc, ns)))) ∧ (¬ ((I mx 2) - 1) < v1 → ((v2 < 0 → (res = (.inl (some (.int 0)), ((ab_up (ab_up I mx 1 0) mx 1 1), L, ab_RR, n, nc, ns)))) ∧ (¬ v2 < 0 → ((3 < v2 → (res = (.inl (some (.int 0)), ((ab_up (ab_up I mx 1 0) mx 1 1), L, ab_RR, n, nc, ns)))) ∧ (¬ 3 < v2 → ((¬ v2 = 3 → (∃ (r16 : Int32) (I17 : Nat → Nat → Int32), ab_C w (d + 1) mt_M_netNow [.ref mx] ((ab_up I mx 1 0), L, ab_RR, n, nc, ns) (.inl (some (.int r16)), (I17, L, ab_RR, n, nc, ns)) ∧ ∃ (r18 : Int32), ab_C w (d + 1) mt_M_endsAt [.ref mx, .int r16, .int v1] (I17, L, ab_RR, n, nc, ns) (.inl (some (.int r18)), (I17, L, ab_RR, n, nc, ns)) ∧ ((¬ v2 = 0 → ((¬ v2 = 1 → ((vp_in v1 10) ∧ res = (.inl (some (.int (I17 mx_piece v1.toNatClampNeg))), (I17, L, ab_RR, n, nc, ns)))) ∧ (v2 = 1 → ((¬ r18 = 1 → (res = (.inl (some (.int 0)), (I17, L, ab_RR, n, nc, ns)))) ∧ (r18 = 1 → (res = (.inl (some (.int 1)), (I17, L, ab_RR, n, nc, ns)))))))) ∧ (v2 = 0 → (res = (.inl (some (.int r18)), (I17, L, ab_RR, n, nc, ns))))))) ∧ (v2 = 3 → (∃ (r23 : Int32) (I24 : Nat → Nat → Int32), ab_C w (d + 1) mt_M_aloneOf [.ref mx, .int v1] ((ab_up I mx 1 0), L, ab_RR, n, nc, ns) (.inl (some (.int r23)), (I24, L, ab_RR, n, nc, ns)) ∧ res = (.inl (some (.int r23)), (I24, L, ab_RR, n, nc, ns)))))))))))))) : ab_E w (d + 2) mt_M_site 0 [.ref mx, .int v1, .int v2, .null, .null] [] (I, L, ab_RR, n, nc, ns) res := by
  refine ab_aload_n (i := 0) d_M_site_0 rfl rfl ?_
  refine ab_iconst (v := 0) d_M_site_1 rfl ?_
  refine ab_putI (ci := 11) (k := 1) d_M_site_2 v_1369 rfl (by decide) (by decide) rfl (Or.inl rfl) rfl rfl ?_
  refine ab_aload_n (i := 0) d_M_site_5 rfl rfl ?_
  refine ab_iload_n (i := 1) d_M_site_6 rfl rfl ?_
  by_cases c2 : v1 < 0
  · have h := h.1 c2
    refine ab_callV (me2 := mt_M_isSite) (b := mx) (as := [.int v1]) (st := []) (rv := (some (.int 0))) (M2 := ((ab_up I mx 1 0), L, ab_RR, n, nc, ns)) d_M_site_7 ce_M_isSite v_1783 v_1785 v_110 (by decide) rfl (Nat.le_of_ble_eq_true rfl) (cx_M_isSite_0 v1 hT c2) (Nat.le_refl _) (Nat.le_refl _) hc hs (fun j h9 => by cases h9) (fun _ _ => rfl) ?_
    show ab_E w (d + 2) mt_M_site 10 [.ref mx, .int v1, .int v2, .null, .null] [.int 0] ((ab_up I mx 1 0), L, ab_RR, n, nc, ns) res
    refine ab_if_eq (tgt := 22) d_M_site_10 (by decide) (fun _ => ?_) (fun c9 => absurd (show (0 : Int32) = 0 from by decide) c9)
    refine ab_aload_n (i := 0) d_M_site_22 rfl rfl ?_
    refine ab_iconst (v := 1) d_M_site_23 rfl ?_
    refine ab_callV (me2 := mt_M_fail) (b := mx) (as := [.int 1]) (st := []) (rv := (some (.int 0))) (M2 := ((ab_up (ab_up I mx 1 0) mx 1 1), L, ab_RR, n, nc, ns)) d_M_site_24 ce_M_fail v_1562 v_1564 v_66 (by decide) rfl (Nat.le_of_ble_eq_true rfl) (cx_M_fail_0 1 hT) (Nat.le_refl _) (Nat.le_refl _) hc hs (fun j h9 => by cases h9) (fun _ _ => rfl) ?_
    show ab_E w (d + 2) mt_M_site 27 [.ref mx, .int v1, .int v2, .null, .null] [.int 0] ((ab_up (ab_up I mx 1 0) mx 1 1), L, ab_RR, n, nc, ns) res
    exact ab_iret (ty := .int) d_M_site_27 rfl rfl h
  · have h := h.2 c2
    by_cases c5 : ((I mx 2) - 1) < v1
    · have h := h.1 c5
      refine ab_callV (me2 := mt_M_isSite) (b := mx) (as := [.int v1]) (st := []) (rv := (some (.int 0))) (M2 := ((ab_up I mx 1 0), L, ab_RR, n, nc, ns)) d_M_site_7 ce_M_isSite v_1783 v_1785 v_110 (by decide) rfl (Nat.le_of_ble_eq_true rfl) (cx_M_isSite_1 v1 hT c2 c5) (Nat.le_refl _) (Nat.le_refl _) hc hs (fun j h9 => by cases h9) (fun _ _ => rfl) ?_
      show ab_E w (d + 2) mt_M_site 10 [.ref mx, .int v1, .int v2, .null, .null] [.int 0] ((ab_up I mx 1 0), L, ab_RR, n, nc, ns) res
      refine ab_if_eq (tgt := 22) d_M_site_10 (by decide) (fun _ => ?_) (fun c9 => absurd (show (0 : Int32) = 0 from by decide) c9)
      refine ab_aload_n (i := 0) d_M_site_22 rfl rfl ?_
      refine ab_iconst (v := 1) d_M_site_23 rfl ?_
      refine ab_callV (me2 := mt_M_fail) (b := mx) (as := [.int 1]) (st := []) (rv := (some (.int 0))) (M2 := ((ab_up (ab_up I mx 1 0) mx 1 1), L, ab_RR, n, nc, ns)) d_M_site_24 ce_M_fail v_1562 v_1564 v_66 (by decide) rfl (Nat.le_of_ble_eq_true rfl) (cx_M_fail_0 1 hT) (Nat.le_refl _) (Nat.le_refl _) hc hs (fun j h9 => by cases h9) (fun _ _ => rfl) ?_
      show ab_E w (d + 2) mt_M_site 27 [.ref mx, .int v1, .int v2, .null, .null] [.int 0] ((ab_up (ab_up I mx 1 0) mx 1 1), L, ab_RR, n, nc, ns) res
      exact ab_iret (ty := .int) d_M_site_27 rfl rfl h
    · have h := h.2 c5
      refine ab_callV (me2 := mt_M_isSite) (b := mx) (as := [.int v1]) (st := []) (rv := (some (.int 1))) (M2 := ((ab_up I mx 1 0), L, ab_RR, n, nc, ns)) d_M_site_7 ce_M_isSite v_1783 v_1785 v_110 (by decide) rfl (Nat.le_of_ble_eq_true rfl) (cx_M_isSite_2 v1 hT c2 c5) (Nat.le_refl _) (Nat.le_refl _) hc hs (fun j h9 => by cases h9) (fun _ _ => rfl) ?_
      show ab_E w (d + 2) mt_M_site 10 [.ref mx, .int v1, .int v2, .null, .null] [.int 1] ((ab_up I mx 1 0), L, ab_RR, n, nc, ns) res
      refine ab_if_eq (tgt := 22) d_M_site_10 (by decide) (fun c9 => absurd c9 (show ¬ (1 : Int32) = 0 from by decide)) (fun _ => ?_)
      refine ab_iload_n (i := 2) d_M_site_13 rfl rfl ?_
      refine ab_iconst (v := 0) d_M_site_14 rfl ?_
      refine ab_iconst (v := 3) d_M_site_15 rfl ?_
      by_cases c9 : v2 < 0
      · have h := h.1 c9
        refine ab_callS (me2 := mt_M_isIn) (as := [.int v2, .int 0, .int 3]) (st := []) (rv := (some (.int 0))) (M2 := ((ab_up I mx 1 0), L, ab_RR, n, nc, ns)) d_M_site_16 ce_M_isIn ⟨v_1753, Or.inl v_1752⟩ (Nat.le_of_ble_eq_true rfl) (cx_M_isIn_0 v2 0 3 hT c9) (Nat.le_refl _) (Nat.le_refl _) hc hs (fun j h9 => by cases h9) (fun _ _ => rfl) ?_
        show ab_E w (d + 2) mt_M_site 19 [.ref mx, .int v1, .int v2, .null, .null] [.int 0] ((ab_up I mx 1 0), L, ab_RR, n, nc, ns) res
        refine ab_if_ne (tgt := 28) d_M_site_19 (by decide) (fun c9 => absurd (show (0 : Int32) = 0 from by decide) c9) (fun _ => ?_)
        refine ab_aload_n (i := 0) d_M_site_22 rfl rfl ?_
        refine ab_iconst (v := 1) d_M_site_23 rfl ?_
        refine ab_callV (me2 := mt_M_fail) (b := mx) (as := [.int 1]) (st := []) (rv := (some (.int 0))) (M2 := ((ab_up (ab_up I mx 1 0) mx 1 1), L, ab_RR, n, nc, ns)) d_M_site_24 ce_M_fail v_1562 v_1564 v_66 (by decide) rfl (Nat.le_of_ble_eq_true rfl) (cx_M_fail_0 1 hT) (Nat.le_refl _) (Nat.le_refl _) hc hs (fun j h9 => by cases h9) (fun _ _ => rfl) ?_
        show ab_E w (d + 2) mt_M_site 27 [.ref mx, .int v1, .int v2, .null, .null] [.int 0] ((ab_up (ab_up I mx 1 0) mx 1 1), L, ab_RR, n, nc, ns) res
        exact ab_iret (ty := .int) d_M_site_27 rfl rfl h
      · have h := h.2 c9
        by_cases c12 : 3 < v2
        · have h := h.1 c12
          refine ab_callS (me2 := mt_M_isIn) (as := [.int v2, .int 0, .int 3]) (st := []) (rv := (some (.int 0))) (M2 := ((ab_up I mx 1 0), L, ab_RR, n, nc, ns)) d_M_site_16 ce_M_isIn ⟨v_1753, Or.inl v_1752⟩ (Nat.le_of_ble_eq_true rfl) (cx_M_isIn_1 v2 0 3 hT c9 c12) (Nat.le_refl _) (Nat.le_refl _) hc hs (fun j h9 => by cases h9) (fun _ _ => rfl) ?_
          show ab_E w (d + 2) mt_M_site 19 [.ref mx, .int v1, .int v2, .null, .null] [.int 0] ((ab_up I mx 1 0), L, ab_RR, n, nc, ns) res
          refine ab_if_ne (tgt := 28) d_M_site_19 (by decide) (fun c9 => absurd (show (0 : Int32) = 0 from by decide) c9) (fun _ => ?_)
          refine ab_aload_n (i := 0) d_M_site_22 rfl rfl ?_
          refine ab_iconst (v := 1) d_M_site_23 rfl ?_
          refine ab_callV (me2 := mt_M_fail) (b := mx) (as := [.int 1]) (st := []) (rv := (some (.int 0))) (M2 := ((ab_up (ab_up I mx 1 0) mx 1 1), L, ab_RR, n, nc, ns)) d_M_site_24 ce_M_fail v_1562 v_1564 v_66 (by decide) rfl (Nat.le_of_ble_eq_true rfl) (cx_M_fail_0 1 hT) (Nat.le_refl _) (Nat.le_refl _) hc hs (fun j h9 => by cases h9) (fun _ _ => rfl) ?_
          show ab_E w (d + 2) mt_M_site 27 [.ref mx, .int v1, .int v2, .null, .null] [.int 0] ((ab_up (ab_up I mx 1 0) mx 1 1), L, ab_RR, n, nc, ns) res
          exact ab_iret (ty := .int) d_M_site_27 rfl rfl h
        · have h := h.2 c12
          refine ab_callS (me2 := mt_M_isIn) (as := [.int v2, .int 0, .int 3]) (st := []) (rv := (some (.int 1))) (M2 := ((ab_up I mx 1 0), L, ab_RR, n, nc, ns)) d_M_site_16 ce_M_isIn ⟨v_1753, Or.inl v_1752⟩ (Nat.le_of_ble_eq_true rfl) (cx_M_isIn_2 v2 0 3 hT c9 c12) (Nat.le_refl _) (Nat.le_refl _) hc hs (fun j h9 => by cases h9) (fun _ _ => rfl) ?_
          show ab_E w (d + 2) mt_M_site 19 [.ref mx, .int v1, .int v2, .null, .null] [.int 1] ((ab_up I mx 1 0), L, ab_RR, n, nc, ns) res
          refine ab_if_ne (tgt := 28) d_M_site_19 (by decide) (fun _ => ?_) (fun c9 => absurd c9 (show ¬ (1 : Int32) = 0 from by decide))
          refine ab_iload_n (i := 2) d_M_site_28 rfl rfl ?_
          refine ab_iconst (v := 3) d_M_site_29 rfl ?_
          refine ab_icmp_ne (tgt := 39) d_M_site_30 (by decide) (fun c15 => ?_) (fun c15 => ?_)
          · have h := h.1 c15
            refine ab_aload_n (i := 0) d_M_site_39 rfl rfl ?_
            obtain ⟨r16, I17, hC, h⟩ := h
            refine ab_callV (me2 := mt_M_netNow) (b := mx) (as := []) (st := []) (rv := (some (.int r16))) (M2 := (I17, L, ab_RR, n, nc, ns)) d_M_site_40 ce_M_netNow v_1639 v_1641 v_80 (by decide) rfl (Nat.le_of_ble_eq_true rfl) hC (Nat.le_refl _) (Nat.le_refl _) hc hs (fun j h9 => by cases h9) (fun _ _ => rfl) ?_
            show ab_E w (d + 2) mt_M_site 43 [.ref mx, .int v1, .int v2, .null, .null] [.int r16] (I17, L, ab_RR, n, nc, ns) res
            refine ab_istore_n (i := 3) d_M_site_43 rfl (by decide) (Or.inr rfl) ?_
            refine ab_aload_n (i := 0) d_M_site_44 rfl rfl ?_
            refine ab_iload_n (i := 3) d_M_site_45 rfl rfl ?_
            refine ab_iload_n (i := 1) d_M_site_46 rfl rfl ?_
            obtain ⟨r18, hC, h⟩ := h
            refine ab_callV (me2 := mt_M_endsAt) (b := mx) (as := [.int r16, .int v1]) (st := []) (rv := (some (.int r18))) (M2 := (I17, L, ab_RR, n, nc, ns)) d_M_site_47 ce_M_endsAt v_1703 v_1705 v_95 (by decide) rfl (Nat.le_of_ble_eq_true rfl) hC (Nat.le_refl _) (Nat.le_refl _) hc hs (fun j h9 => by cases h9) (fun _ _ => rfl) ?_
            show ab_E w (d + 2) mt_M_site 50 [.ref mx, .int v1, .int v2, .int r16, .null] [.int r18] (I17, L, ab_RR, n, nc, ns) res
            refine ab_istore (i := 4) d_M_site_50 (by decide) (Or.inr rfl) ?_
            refine ab_iload_n (i := 2) d_M_site_52 rfl rfl ?_
            refine ab_if_ne (tgt := 61) d_M_site_53 (by decide) (fun c19 => ?_) (fun c19 => ?_)
            · have h := h.1 c19
              refine ab_iload_n (i := 2) d_M_site_61 rfl rfl ?_
              refine ab_iconst (v := 1) d_M_site_62 rfl ?_
              refine ab_icmp_ne (tgt := 80) d_M_site_63 (by decide) (fun c20 => ?_) (fun c20 => ?_)
              · have h := h.1 c20
                refine ab_aload_n (i := 0) d_M_site_80 rfl rfl ?_
                refine ab_getR (ci := 11) (k := 19) (j := mx_piece) d_M_site_81 v_1387 rfl (by decide) (by decide) rfl r_mx_19 ?_
                refine ab_iload_n (i := 1) d_M_site_84 rfl rfl ?_
                have g21 := h.1; have h := h.2
                refine ab_iald d_M_site_85 rfl rfl g21 ?_
                exact ab_iret (ty := .int) d_M_site_86 rfl rfl h
              · have h := h.2 c20
                refine ab_iload (i := 4) d_M_site_66 rfl ?_
                refine ab_iconst (v := 1) d_M_site_68 rfl ?_
                refine ab_icmp_ne (tgt := 76) d_M_site_69 (by decide) (fun c22 => ?_) (fun c22 => ?_)
                · have h := h.1 c22
                  refine ab_iconst (v := 0) d_M_site_76 rfl ?_
                  refine ab_goto (tgt := 86) d_M_site_77 (by decide) ?_
                  exact ab_iret (ty := .int) d_M_site_86 rfl rfl h
                · have h := h.2 c22
                  refine ab_iconst (v := 1) d_M_site_72 rfl ?_
                  refine ab_goto (tgt := 86) d_M_site_73 (by decide) ?_
                  exact ab_iret (ty := .int) d_M_site_86 rfl rfl h
            · have h := h.2 c19
              refine ab_iload (i := 4) d_M_site_56 rfl ?_
              refine ab_goto (tgt := 86) d_M_site_58 (by decide) ?_
              exact ab_iret (ty := .int) d_M_site_86 rfl rfl h
          · have h := h.2 c15
            refine ab_aload_n (i := 0) d_M_site_33 rfl rfl ?_
            refine ab_iload_n (i := 1) d_M_site_34 rfl rfl ?_
            obtain ⟨r23, I24, hC, h⟩ := h
            refine ab_callV (me2 := mt_M_aloneOf) (b := mx) (as := [.int v1]) (st := []) (rv := (some (.int r23))) (M2 := (I24, L, ab_RR, n, nc, ns)) d_M_site_35 ce_M_aloneOf v_1787 v_1789 v_111 (by decide) rfl (Nat.le_of_ble_eq_true rfl) hC (Nat.le_refl _) (Nat.le_refl _) hc hs (fun j h9 => by cases h9) (fun _ _ => rfl) ?_
            show ab_E w (d + 2) mt_M_site 38 [.ref mx, .int v1, .int v2, .null, .null] [.int r23] (I24, L, ab_RR, n, nc, ns) res
            exact ab_iret (ty := .int) d_M_site_38 rfl rfl h
