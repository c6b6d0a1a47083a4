theorem r_M_finds_0 {w : ab_Wd} {d n nc ns : Nat} {I : Nat → Nat → Int32} {L : Nat → Nat → Int64} {res : ab_Re} (hT : w.1.stackTraces = false) (v1 : Int32) (v2 : Int32) (hc : nc ≤ res.2.2.2.2.2.1) (hs : ns ≤ res.2.2.2.2.2.2)
    (h : (vp_in v1 10) ∧ ab_E w (d + 1) mt_M_finds 7 [.ref mx, .int v1, .int v2, .ref mx_metSites, .int 0, .null, .null] [] ((ab_up I mx_metSites v1.toNatClampNeg (vp_nar .boolean 1)), L, ab_RR, n, nc, ns) res) : ab_E w (d + 1) mt_M_finds 0 [.ref mx, .int v1, .int v2, .ref mx_metSites, .null, .null, .null] [] (I, L, ab_RR, n, nc, ns) res := by
  refine ab_aload_n (i := 3) d_M_finds_0 rfl rfl ?_
  refine ab_iload_n (i := 1) d_M_finds_1 rfl rfl ?_
  refine ab_iconst (v := 1) d_M_finds_2 rfl ?_
  have g1 := h.1; have h := h.2
  refine ab_zast d_M_finds_3 rfl rfl g1 ?_
  refine ab_iconst (v := 0) d_M_finds_4 rfl ?_
  refine ab_istore (i := 4) d_M_finds_5 (by decide) (Or.inr rfl) ?_
  exact h
theorem r_M_finds_7 {w : ab_Wd} {d n nc ns : Nat} {I : Nat → Nat → Int32} {L : Nat → Nat → Int64} {res : ab_Re} (hT : w.1.stackTraces = false) (v1 : Int32) (v2 : Int32) (v4 : Int32) (hc : nc ≤ res.2.2.2.2.2.1) (hs : ns ≤ res.2.2.2.2.2.2)
    (h : (((I mx_now 0) ≤ v4 → ((¬ v1 = v2 → (res = (.inl (some (.int 0)), (I, L, ab_RR, n, nc, ns)))) ∧ (v1 = v2 → (res = (.inl (some (.int 1)), (I, L, ab_RR, n, nc, ns)))))) ∧ (¬ (I mx_now 0) ≤ v4 → ((v1 = v2 → ((¬ v1 = v2 → (res = (.inl (some (.int 0)), (I, L, ab_RR, n, nc, ns)))) ∧ (v1 = v2 → (res = (.inl (some (.int 1)), (I, L, ab_RR, n, nc, ns)))))) ∧ (¬ v1 = v2 → (((((I mx_now 1) >>> (v4 &&& 31)) &&& 1) = 1 → ((vp_in (3 + v4) 399) ∧ (((I mx_now (3 + v4).toNatClampNeg) = v1 → ((vp_in (27 + v4) 399) ∧ ((¬ (I mx_now (3 + v4).toNatClampNeg) = v1 → (((I mx_now (27 + v4).toNatClampNeg) = (-1) → (ab_E w (d + 1) mt_M_finds 7 [.ref mx, .int v1, .int v2, .ref mx_metSites, .int (v4 + 1), .null, .null] [] (I, L, ab_RR, n, nc, ns) res)) ∧ (¬ (I mx_now (27 + v4).toNatClampNeg) = (-1) → ((vp_in (I mx_now (27 + v4).toNatClampNeg) 10) ∧ ((¬ (I mx_metSites (I mx_now (27 + v4).toNatClampNeg).toNatClampNeg) = 0 → (ab_E w (d + 1) mt_M_finds 7 [.ref mx, .int v1, .int v2, .ref mx_metSites, .int (v4 + 1), .null, .null] [] (I, L, ab_RR, n, nc, ns) res)) ∧ ((I mx_metSites (I mx_now (27 + v4).toNatClampNeg).toNatClampNeg) = 0 → ((vp_in v4 24) ∧ ((¬ (I mx_gone v4.toNatClampNeg) = (-1) → (∃ (r18 : Int32) (I19 : Nat → Nat → Int32), ab_C w d mt_M_finds [.ref mx, .int (I mx_now (27 + v4).toNatClampNeg), .int v2, .ref mx_metSites] (I, L, ab_RR, n, nc, ns) (.inl (some (.int r18)), (I19, L, ab_RR, n, nc, ns)) ∧ ((¬ r18 = 0 → (res = (.inl (some (.int 1)), ((ab_up I19 mx_gone v4.toNatClampNeg ((I19 mx_gone v4.toNatClampNeg) + (-1))), L, ab_RR, n, nc, ns)))) ∧ (r18 = 0 → (ab_E w (d + 1) mt_M_finds 7 [.ref mx, .int v1, .int v2, .ref mx_metSites, .int (v4 + 1), .null, .null] [] (I19, L, ab_RR, n, nc, ns) res))))) ∧ ((I mx_gone v4.toNatClampNeg) = (-1) → (ab_E w (d + 1) mt_M_finds 7 [.ref mx, .int v1, .int v2, .ref mx_metSites, .int (v4 + 1), .null, .null] [] (I, L, ab_RR, n, nc, ns) res)))))))))) ∧ ((I mx_now (3 + v4).toNatClampNeg) = v1 → (((I mx_now (27 + v4).toNatClampNeg) = (-1) → (ab_E w (d + 1) mt_M_finds 7 [.ref mx, .int v1, .int v2, .ref mx_metSites, .int (v4 + 1), .null, .null] [] (I, L, ab_RR, n, nc, ns) res)) ∧ (¬ (I mx_now (27 + v4).toNatClampNeg) = (-1) → ((vp_in (I mx_now (27 + v4).toNatClampNeg) 10) ∧ ((¬ (I mx_metSites (I mx_now (27 + v4).toNatClampNeg).toNatClampNeg) = 0 → (ab_E w (d + 1) mt_M_finds 7 [.ref mx, .int v1, .int v2, .ref mx_metSites, .int (v4 + 1), .null, .null] [] (I, L, ab_RR, n, nc, ns) res)) ∧ ((I mx_metSites (I mx_now (27 + v4).toNatClampNeg).toNatClampNeg) = 0 → ((vp_in v4 24) ∧ ((¬ (I mx_gone v4.toNatClampNeg) = 1 → (∃ (r26 : Int32) (I27 : Nat → Nat → Int32), ab_C w d mt_M_finds [.ref mx, .int (I mx_now (27 + v4).toNatClampNeg), .int v2, .ref mx_metSites] (I, L, ab_RR, n, nc, ns) (.inl (some (.int r26)), (I27, L, ab_RR, n, nc, ns)) ∧ ((¬ r26 = 0 → (res = (.inl (some (.int 1)), ((ab_up I27 mx_gone v4.toNatClampNeg ((I27 mx_gone v4.toNatClampNeg) + 1)), L, ab_RR, n, nc, ns)))) ∧ (r26 = 0 → (ab_E w (d + 1) mt_M_finds 7 [.ref mx, .int v1, .int v2, .ref mx_metSites, .int (v4 + 1), .null, .null] [] (I27, L, ab_RR, n, nc, ns) res))))) ∧ ((I mx_gone v4.toNatClampNeg) = 1 → (ab_E w (d + 1) mt_M_finds 7 [.ref mx, .int v1, .int v2, .ref mx_metSites, .int (v4 + 1), .null, .null] [] (I, L, ab_RR, n, nc, ns) res))))))))))))) ∧ (¬ (I mx_now (3 + v4).toNatClampNeg) = v1 → ((vp_in (27 + v4) 399) ∧ (((I mx_now (27 + v4).toNatClampNeg) = v1 → ((¬ (I mx_now (3 + v4).toNatClampNeg) = v1 → (((I mx_now (3 + v4).toNatClampNeg) = (-1) → (ab_E w (d + 1) mt_M_finds 7 [.ref mx, .int v1, .int v2, .ref mx_metSites, .int (v4 + 1), .null, .null] [] (I, L, ab_RR, n, nc, ns) res)) ∧ (¬ (I mx_now (3 + v4).toNatClampNeg) = (-1) → ((vp_in (I mx_now (3 + v4).toNatClampNeg) 10) ∧ ((¬ (I mx_metSites (I mx_now (3 + v4).toNatClampNeg).toNatClampNeg) = 0 → (ab_E w (d + 1) mt_M_finds 7 [.ref mx, .int v1, .int v2, .ref mx_metSites, .int (v4 + 1), .null, .null] [] (I, L, ab_RR, n, nc, ns) res)) ∧ ((I mx_metSites (I mx_now (3 + v4).toNatClampNeg).toNatClampNeg) = 0 → ((vp_in v4 24) ∧ ((¬ (I mx_gone v4.toNatClampNeg) = (-1) → (∃ (r37 : Int32) (I38 : Nat → Nat → Int32), ab_C w d mt_M_finds [.ref mx, .int (I mx_now (3 + v4).toNatClampNeg), .int v2, .ref mx_metSites] (I, L, ab_RR, n, nc, ns) (.inl (some (.int r37)), (I38, L, ab_RR, n, nc, ns)) ∧ ((¬ r37 = 0 → (res = (.inl (some (.int 1)), ((ab_up I38 mx_gone v4.toNatClampNeg ((I38 mx_gone v4.toNatClampNeg) + (-1))), L, ab_RR, n, nc, ns)))) ∧ (r37 = 0 → (ab_E w (d + 1) mt_M_finds 7 [.ref mx, .int v1, .int v2, .ref mx_metSites, .int (v4 + 1), .null, .null] [] (I38, L, ab_RR, n, nc, ns) res))))) ∧ ((I mx_gone v4.toNatClampNeg) = (-1) → (ab_E w (d + 1) mt_M_finds 7 [.ref mx, .int v1, .int v2, .ref mx_metSites, .int (v4 + 1), .null, .null] [] (I, L, ab_RR, n, nc, ns) res)))))))))) ∧ ((I mx_now (3 + v4).toNatClampNeg) = v1 → (((I mx_now (3 + v4).toNatClampNeg) = (-1) → (ab_E w (d + 1) mt_M_finds 7 [.ref mx, .int v1, .int v2, .ref mx_metSites, .int (v4 + 1), .null, .null] [] (I, L, ab_RR, n, nc, ns) res)) ∧ (¬ (I mx_now (3 + v4).toNatClampNeg) = (-1) → ((vp_in (I mx_now (3 + v4).toNatClampNeg) 10) ∧ ((¬ (I mx_metSites (I mx_now (3 + v4).toNatClampNeg).toNatClampNeg) = 0 → (ab_E w (d + 1) mt_M_finds 7 [.ref mx, .int v1, .int v2, .ref mx_metSites, .int (v4 + 1), .null, .null] [] (I, L, ab_RR, n, nc, ns) res)) ∧ ((I mx_metSites (I mx_now (3 + v4).toNatClampNeg).toNatClampNeg) = 0 → ((vp_in v4 24) ∧ ((¬ (I mx_gone v4.toNatClampNeg) = 1 → (∃ (r45 : Int32) (I46 : Nat → Nat → Int32), ab_C w d mt_M_finds [.ref mx, .int (I mx_now (3 + v4).toNatClampNeg), .int v2, .ref mx_metSites] (I, L, ab_RR, n, nc, ns) (.inl (some (.int r45)), (I46, L, ab_RR, n, nc, ns)) ∧ ((¬ r45 = 0 → (res = (.inl (some (.int 1)), ((ab_up I46 mx_gone v4.toNatClampNeg ((I46 mx_gone v4.toNatClampNeg) + 1)), L, ab_RR, n, nc, ns)))) ∧ (r45 = 0 → (ab_E w (d + 1) mt_M_finds 7 [.ref mx, .int v1, .int v2, .ref mx_metSites, .int (v4 + 1), .null, .null] [] (I46, L, ab_RR, n, nc, ns) res))))) ∧ ((I mx_gone v4.toNatClampNeg) = 1 → (ab_E w (d + 1) mt_M_finds 7 [.ref mx, .int v1, .int v2, .ref mx_metSites, .int (v4 + 1), .null, .null] [] (I, L, ab_RR, n, nc, ns) res)))))))))))) ∧ (¬ (I mx_now (27 + v4).toNatClampNeg) = v1 → ((¬ (I mx_now (3 + v4).toNatClampNeg) = v1 → (ab_E w (d + 1) mt_M_finds 7 [.ref mx, .int v1, .int v2, .ref mx_metSites, .int (v4 + 1), .null, .null] [] (I, L, ab_RR, n, nc, ns) res)) ∧ ((I mx_now (3 + v4).toNatClampNeg) = v1 → (ab_E w (d + 1) mt_M_finds 7 [.ref mx, .int v1, .int v2, .ref mx_metSites, .int (v4 + 1), .null, .null] [] (I, L, ab_RR, n, nc, ns) res)))))))))) ∧ (¬ (((I mx_now 1) >>> (v4 &&& 31)) &&& 1) = 1 → ((vp_in (3 + v4) 399) ∧ ((¬ (I mx_now (3 + v4).toNatClampNeg) = v1 → (ab_E w (d + 1) mt_M_finds 7 [.ref mx, .int v1, .int v2, .ref mx_metSites, .int (v4 + 1), .null, .null] [] (I, L, ab_RR, n, nc, ns) res)) ∧ ((I mx_now (3 + v4).toNatClampNeg) = v1 → (ab_E w (d + 1) mt_M_finds 7 [.ref mx, .int v1, .int v2, .ref mx_metSites, .int (v4 + 1), .null, .null] [] (I, L, ab_RR, n, nc, ns) res))))))))))) : ab_E w (d + 1) mt_M_finds 7 [.ref mx, .int v1, .int v2, .ref mx_metSites, .int v4, .null, .null] [] (I, L, ab_RR, n, nc, ns) res := by
  refine ab_iload (i := 4) d_M_finds_7 rfl ?_
  refine ab_aload_n (i := 0) d_M_finds_9 rfl rfl ?_
  refine ab_callV (me2 := mt_M_many) (b := mx) (as := []) (st := [.int v4]) (rv := (some (.int (I mx_now 0)))) (M2 := (I, L, ab_RR, n, nc, ns)) d_M_finds_10 ce_M_many v_1635 v_1637 v_79 (by decide) rfl (Nat.le_of_ble_eq_true rfl) (cx_M_many_0  hT (show (vp_in 0 399) from by unfold vp_in; decide)) (Nat.le_refl _) (Nat.le_refl _) hc hs (fun j h9 => by cases h9) (fun _ _ => rfl) ?_
  show ab_E w (d + 1) mt_M_finds 13 [.ref mx, .int v1, .int v2, .ref mx_metSites, .int v4, .null, .null] [.int (I mx_now 0), .int v4] (I, L, ab_RR, n, nc, ns) res
  refine ab_icmp_ge (tgt := 125) d_M_finds_13 (by decide) (fun c2 => ?_) (fun c2 => ?_)
  · have h := h.1 c2
    refine ab_iload_n (i := 1) d_M_finds_125 rfl rfl ?_
    refine ab_iload_n (i := 2) d_M_finds_126 rfl rfl ?_
    refine ab_icmp_ne (tgt := 134) d_M_finds_127 (by decide) (fun c3 => ?_) (fun c3 => ?_)
    · have h := h.1 c3
      refine ab_iconst (v := 0) d_M_finds_134 rfl ?_
      exact ab_iret (ty := .boolean) d_M_finds_135 rfl rfl h
    · have h := h.2 c3
      refine ab_iconst (v := 1) d_M_finds_130 rfl ?_
      refine ab_goto (tgt := 135) d_M_finds_131 (by decide) ?_
      exact ab_iret (ty := .boolean) d_M_finds_135 rfl rfl h
  · have h := h.2 c2
    refine ab_iload_n (i := 1) d_M_finds_16 rfl rfl ?_
    refine ab_iload_n (i := 2) d_M_finds_17 rfl rfl ?_
    refine ab_icmp_eq (tgt := 125) d_M_finds_18 (by decide) (fun c4 => ?_) (fun c4 => ?_)
    · have h := h.1 c4
      refine ab_iload_n (i := 1) d_M_finds_125 rfl rfl ?_
      refine ab_iload_n (i := 2) d_M_finds_126 rfl rfl ?_
      refine ab_icmp_ne (tgt := 134) d_M_finds_127 (by decide) (fun c5 => ?_) (fun c5 => ?_)
      · have h := h.1 c5
        refine ab_iconst (v := 0) d_M_finds_134 rfl ?_
        exact ab_iret (ty := .boolean) d_M_finds_135 rfl rfl h
      · have h := h.2 c5
        refine ab_iconst (v := 1) d_M_finds_130 rfl ?_
        refine ab_goto (tgt := 135) d_M_finds_131 (by decide) ?_
        exact ab_iret (ty := .boolean) d_M_finds_135 rfl rfl h
    · have h := h.2 c4
      refine ab_aload_n (i := 0) d_M_finds_21 rfl rfl ?_
      refine ab_iload (i := 4) d_M_finds_22 rfl ?_
      by_cases c7 : (((I mx_now 1) >>> (v4 &&& 31)) &&& 1) = 1
      · have h := h.1 c7
        refine ab_callV (me2 := mt_M_isSound) (b := mx) (as := [.int v4]) (st := []) (rv := (some (.int 1))) (M2 := (I, L, ab_RR, n, nc, ns)) d_M_finds_24 ce_M_isSound v_1679 v_1681 v_89 (by decide) rfl (Nat.le_of_ble_eq_true rfl) (cx_M_isSound_1 v4 hT (show (vp_in 1 399) from by unfold vp_in; decide) c7) (Nat.le_refl _) (Nat.le_refl _) hc hs (fun j h9 => by cases h9) (fun _ _ => rfl) ?_
        show ab_E w (d + 1) mt_M_finds 27 [.ref mx, .int v1, .int v2, .ref mx_metSites, .int v4, .null, .null] [.int 1] (I, L, ab_RR, n, nc, ns) res
        refine ab_if_eq (tgt := 40) d_M_finds_27 (by decide) (fun c9 => absurd c9 (show ¬ (1 : Int32) = 0 from by decide)) (fun _ => ?_)
        refine ab_aload_n (i := 0) d_M_finds_30 rfl rfl ?_
        refine ab_iload (i := 4) d_M_finds_31 rfl ?_
        refine ab_iload_n (i := 1) d_M_finds_33 rfl rfl ?_
        have g9 := h.1; have h := h.2
        by_cases c10 : (I mx_now (3 + v4).toNatClampNeg) = v1
        · have h := h.1 c10
          have g11 := h.1; have h := h.2
          refine ab_callV (me2 := mt_M_otherEnd) (b := mx) (as := [.int v4, .int v1]) (st := []) (rv := (some (.int (I mx_now (27 + v4).toNatClampNeg)))) (M2 := (I, L, ab_RR, n, nc, ns)) d_M_finds_34 ce_M_otherEnd v_1691 v_1693 v_92 (by decide) rfl (Nat.le_of_ble_eq_true rfl) (cx_M_otherEnd_2 v4 v1 hT g9 c10 g11) (Nat.le_refl _) (Nat.le_refl _) hc hs (fun j h9 => by cases h9) (fun _ _ => rfl) ?_
          show ab_E w (d + 1) mt_M_finds 37 [.ref mx, .int v1, .int v2, .ref mx_metSites, .int v4, .null, .null] [.int (I mx_now (27 + v4).toNatClampNeg)] (I, L, ab_RR, n, nc, ns) res
          refine ab_goto (tgt := 41) d_M_finds_37 (by decide) ?_
          refine ab_istore (i := 5) d_M_finds_41 (by decide) (Or.inr rfl) ?_
          refine ab_aload_n (i := 0) d_M_finds_43 rfl rfl ?_
          refine ab_getR (ci := 11) (k := 4) (j := mx_now) d_M_finds_44 v_1372 rfl (by decide) (by decide) rfl r_mx_4 ?_
          refine ab_iconst (v := 3) d_M_finds_47 rfl ?_
          refine ab_iload (i := 4) d_M_finds_48 rfl ?_
          refine ab_iadd d_M_finds_50 ?_
          refine ab_iald d_M_finds_51 rfl rfl g9 ?_
          refine ab_iload_n (i := 1) d_M_finds_52 rfl rfl ?_
          refine ab_icmp_ne (tgt := 60) d_M_finds_53 (by decide) (fun c12 => ?_) (fun c12 => ?_)
          · have h := h.1 c12
            refine ab_iconst (v := (-1)) d_M_finds_60 rfl ?_
            refine ab_istore (i := 6) d_M_finds_61 (by decide) (Or.inr rfl) ?_
            refine ab_iload (i := 5) d_M_finds_63 rfl ?_
            refine ab_iconst (v := (-1)) d_M_finds_65 rfl ?_
            refine ab_icmp_eq (tgt := 119) d_M_finds_66 (by decide) (fun c13 => ?_) (fun c13 => ?_)
            · have h := h.1 c13
              refine ab_iinc (i := 4) (v := (v4 + 1)) d_M_finds_119 rfl rfl (by decide) (Or.inr rfl) ?_
              refine ab_goto (tgt := 7) d_M_finds_122 (by decide) ?_
              refine ab_drop 5 ?_
              refine ab_drop 6 ?_
              exact h
            · have h := h.2 c13
              refine ab_aload_n (i := 3) d_M_finds_69 rfl rfl ?_
              refine ab_iload (i := 5) d_M_finds_70 rfl ?_
              have g14 := h.1; have h := h.2
              refine ab_zald d_M_finds_72 rfl rfl g14 ?_
              refine ab_if_ne (tgt := 119) d_M_finds_73 (by decide) (fun c15 => ?_) (fun c15 => ?_)
              · have h := h.1 c15
                refine ab_iinc (i := 4) (v := (v4 + 1)) d_M_finds_119 rfl rfl (by decide) (Or.inr rfl) ?_
                refine ab_goto (tgt := 7) d_M_finds_122 (by decide) ?_
                refine ab_drop 5 ?_
                refine ab_drop 6 ?_
                exact h
              · have h := h.2 c15
                refine ab_aload_n (i := 0) d_M_finds_76 rfl rfl ?_
                refine ab_getR (ci := 11) (k := 29) (j := mx_gone) d_M_finds_77 v_1397 rfl (by decide) (by decide) rfl r_mx_29 ?_
                refine ab_iload (i := 4) d_M_finds_80 rfl ?_
                have g16 := h.1; have h := h.2
                refine ab_iald d_M_finds_82 rfl rfl g16 ?_
                refine ab_iload (i := 6) d_M_finds_83 rfl ?_
                refine ab_icmp_ne (tgt := 91) d_M_finds_85 (by decide) (fun c17 => ?_) (fun c17 => ?_)
                · have h := h.1 c17
                  refine ab_aload_n (i := 0) d_M_finds_91 rfl rfl ?_
                  refine ab_iload (i := 5) d_M_finds_92 rfl ?_
                  refine ab_iload_n (i := 2) d_M_finds_94 rfl rfl ?_
                  refine ab_aload_n (i := 3) d_M_finds_95 rfl rfl ?_
                  obtain ⟨r18, I19, hC, h⟩ := h
                  refine ab_callV (me2 := mt_M_finds) (b := mx) (as := [.int (I mx_now (27 + v4).toNatClampNeg), .int v2, .ref mx_metSites]) (st := []) (rv := (some (.int r18))) (M2 := (I19, L, ab_RR, n, nc, ns)) d_M_finds_96 ce_M_finds v_1803 v_1805 v_114 (by decide) rfl (Nat.le_of_ble_eq_true rfl) hC (Nat.le_refl _) (Nat.le_refl _) hc hs (fun j h9 => by cases h9) (fun _ _ => rfl) ?_
                  show ab_E w (d + 1) mt_M_finds 99 [.ref mx, .int v1, .int v2, .ref mx_metSites, .int v4, .int (I mx_now (27 + v4).toNatClampNeg), .int (-1)] [.int r18] (I19, L, ab_RR, n, nc, ns) res
                  refine ab_if_ne (tgt := 105) d_M_finds_99 (by decide) (fun c20 => ?_) (fun c20 => ?_)
                  · have h := h.1 c20
                    refine ab_aload_n (i := 0) d_M_finds_105 rfl rfl ?_
                    refine ab_getR (ci := 11) (k := 29) (j := mx_gone) d_M_finds_106 v_1397 rfl (by decide) (by decide) rfl r_mx_29 ?_
                    refine ab_iload (i := 4) d_M_finds_109 rfl ?_
                    refine ab_dup2 d_M_finds_111 ?_
                    refine ab_iald d_M_finds_112 rfl rfl g16 ?_
                    refine ab_iload (i := 6) d_M_finds_113 rfl ?_
                    refine ab_iadd d_M_finds_115 ?_
                    refine ab_iast d_M_finds_116 rfl rfl g16 ?_
                    refine ab_iconst (v := 1) d_M_finds_117 rfl ?_
                    exact ab_iret (ty := .boolean) d_M_finds_118 rfl rfl h
                  · have h := h.2 c20
                    refine ab_goto (tgt := 119) d_M_finds_102 (by decide) ?_
                    refine ab_iinc (i := 4) (v := (v4 + 1)) d_M_finds_119 rfl rfl (by decide) (Or.inr rfl) ?_
                    refine ab_goto (tgt := 7) d_M_finds_122 (by decide) ?_
                    refine ab_drop 5 ?_
                    refine ab_drop 6 ?_
                    exact h
                · have h := h.2 c17
                  refine ab_goto (tgt := 119) d_M_finds_88 (by decide) ?_
                  refine ab_iinc (i := 4) (v := (v4 + 1)) d_M_finds_119 rfl rfl (by decide) (Or.inr rfl) ?_
                  refine ab_goto (tgt := 7) d_M_finds_122 (by decide) ?_
                  refine ab_drop 5 ?_
                  refine ab_drop 6 ?_
                  exact h
          · have h := h.2 c12
            refine ab_iconst (v := 1) d_M_finds_56 rfl ?_
            refine ab_goto (tgt := 61) d_M_finds_57 (by decide) ?_
            refine ab_istore (i := 6) d_M_finds_61 (by decide) (Or.inr rfl) ?_
            refine ab_iload (i := 5) d_M_finds_63 rfl ?_
            refine ab_iconst (v := (-1)) d_M_finds_65 rfl ?_
            refine ab_icmp_eq (tgt := 119) d_M_finds_66 (by decide) (fun c21 => ?_) (fun c21 => ?_)
            · have h := h.1 c21
              refine ab_iinc (i := 4) (v := (v4 + 1)) d_M_finds_119 rfl rfl (by decide) (Or.inr rfl) ?_
              refine ab_goto (tgt := 7) d_M_finds_122 (by decide) ?_
              refine ab_drop 5 ?_
              refine ab_drop 6 ?_
              exact h
            · have h := h.2 c21
              refine ab_aload_n (i := 3) d_M_finds_69 rfl rfl ?_
              refine ab_iload (i := 5) d_M_finds_70 rfl ?_
              have g22 := h.1; have h := h.2
              refine ab_zald d_M_finds_72 rfl rfl g22 ?_
              refine ab_if_ne (tgt := 119) d_M_finds_73 (by decide) (fun c23 => ?_) (fun c23 => ?_)
              · have h := h.1 c23
                refine ab_iinc (i := 4) (v := (v4 + 1)) d_M_finds_119 rfl rfl (by decide) (Or.inr rfl) ?_
                refine ab_goto (tgt := 7) d_M_finds_122 (by decide) ?_
                refine ab_drop 5 ?_
                refine ab_drop 6 ?_
                exact h
              · have h := h.2 c23
                refine ab_aload_n (i := 0) d_M_finds_76 rfl rfl ?_
                refine ab_getR (ci := 11) (k := 29) (j := mx_gone) d_M_finds_77 v_1397 rfl (by decide) (by decide) rfl r_mx_29 ?_
                refine ab_iload (i := 4) d_M_finds_80 rfl ?_
                have g24 := h.1; have h := h.2
                refine ab_iald d_M_finds_82 rfl rfl g24 ?_
                refine ab_iload (i := 6) d_M_finds_83 rfl ?_
                refine ab_icmp_ne (tgt := 91) d_M_finds_85 (by decide) (fun c25 => ?_) (fun c25 => ?_)
                · have h := h.1 c25
                  refine ab_aload_n (i := 0) d_M_finds_91 rfl rfl ?_
                  refine ab_iload (i := 5) d_M_finds_92 rfl ?_
                  refine ab_iload_n (i := 2) d_M_finds_94 rfl rfl ?_
                  refine ab_aload_n (i := 3) d_M_finds_95 rfl rfl ?_
                  obtain ⟨r26, I27, hC, h⟩ := h
                  refine ab_callV (me2 := mt_M_finds) (b := mx) (as := [.int (I mx_now (27 + v4).toNatClampNeg), .int v2, .ref mx_metSites]) (st := []) (rv := (some (.int r26))) (M2 := (I27, L, ab_RR, n, nc, ns)) d_M_finds_96 ce_M_finds v_1803 v_1805 v_114 (by decide) rfl (Nat.le_of_ble_eq_true rfl) hC (Nat.le_refl _) (Nat.le_refl _) hc hs (fun j h9 => by cases h9) (fun _ _ => rfl) ?_
                  show ab_E w (d + 1) mt_M_finds 99 [.ref mx, .int v1, .int v2, .ref mx_metSites, .int v4, .int (I mx_now (27 + v4).toNatClampNeg), .int 1] [.int r26] (I27, L, ab_RR, n, nc, ns) res
                  refine ab_if_ne (tgt := 105) d_M_finds_99 (by decide) (fun c28 => ?_) (fun c28 => ?_)
                  · have h := h.1 c28
                    refine ab_aload_n (i := 0) d_M_finds_105 rfl rfl ?_
                    refine ab_getR (ci := 11) (k := 29) (j := mx_gone) d_M_finds_106 v_1397 rfl (by decide) (by decide) rfl r_mx_29 ?_
                    refine ab_iload (i := 4) d_M_finds_109 rfl ?_
                    refine ab_dup2 d_M_finds_111 ?_
                    refine ab_iald d_M_finds_112 rfl rfl g24 ?_
                    refine ab_iload (i := 6) d_M_finds_113 rfl ?_
                    refine ab_iadd d_M_finds_115 ?_
                    refine ab_iast d_M_finds_116 rfl rfl g24 ?_
                    refine ab_iconst (v := 1) d_M_finds_117 rfl ?_
                    exact ab_iret (ty := .boolean) d_M_finds_118 rfl rfl h
                  · have h := h.2 c28
                    refine ab_goto (tgt := 119) d_M_finds_102 (by decide) ?_
                    refine ab_iinc (i := 4) (v := (v4 + 1)) d_M_finds_119 rfl rfl (by decide) (Or.inr rfl) ?_
                    refine ab_goto (tgt := 7) d_M_finds_122 (by decide) ?_
                    refine ab_drop 5 ?_
                    refine ab_drop 6 ?_
                    exact h
                · have h := h.2 c25
                  refine ab_goto (tgt := 119) d_M_finds_88 (by decide) ?_
                  refine ab_iinc (i := 4) (v := (v4 + 1)) d_M_finds_119 rfl rfl (by decide) (Or.inr rfl) ?_
                  refine ab_goto (tgt := 7) d_M_finds_122 (by decide) ?_
                  refine ab_drop 5 ?_
                  refine ab_drop 6 ?_
                  exact h
        · have h := h.2 c10
          have g29 := h.1; have h := h.2
          by_cases c30 : (I mx_now (27 + v4).toNatClampNeg) = v1
          · have h := h.1 c30
            refine ab_callV (me2 := mt_M_otherEnd) (b := mx) (as := [.int v4, .int v1]) (st := []) (rv := (some (.int (I mx_now (3 + v4).toNatClampNeg)))) (M2 := (I, L, ab_RR, n, nc, ns)) d_M_finds_34 ce_M_otherEnd v_1691 v_1693 v_92 (by decide) rfl (Nat.le_of_ble_eq_true rfl) (cx_M_otherEnd_1 v4 v1 hT g9 c10 g29 c30 g9) (Nat.le_refl _) (Nat.le_refl _) hc hs (fun j h9 => by cases h9) (fun _ _ => rfl) ?_
            show ab_E w (d + 1) mt_M_finds 37 [.ref mx, .int v1, .int v2, .ref mx_metSites, .int v4, .null, .null] [.int (I mx_now (3 + v4).toNatClampNeg)] (I, L, ab_RR, n, nc, ns) res
            refine ab_goto (tgt := 41) d_M_finds_37 (by decide) ?_
            refine ab_istore (i := 5) d_M_finds_41 (by decide) (Or.inr rfl) ?_
            refine ab_aload_n (i := 0) d_M_finds_43 rfl rfl ?_
            refine ab_getR (ci := 11) (k := 4) (j := mx_now) d_M_finds_44 v_1372 rfl (by decide) (by decide) rfl r_mx_4 ?_
            refine ab_iconst (v := 3) d_M_finds_47 rfl ?_
            refine ab_iload (i := 4) d_M_finds_48 rfl ?_
            refine ab_iadd d_M_finds_50 ?_
            refine ab_iald d_M_finds_51 rfl rfl g9 ?_
            refine ab_iload_n (i := 1) d_M_finds_52 rfl rfl ?_
            refine ab_icmp_ne (tgt := 60) d_M_finds_53 (by decide) (fun c31 => ?_) (fun c31 => ?_)
            · have h := h.1 c31
              refine ab_iconst (v := (-1)) d_M_finds_60 rfl ?_
              refine ab_istore (i := 6) d_M_finds_61 (by decide) (Or.inr rfl) ?_
              refine ab_iload (i := 5) d_M_finds_63 rfl ?_
              refine ab_iconst (v := (-1)) d_M_finds_65 rfl ?_
              refine ab_icmp_eq (tgt := 119) d_M_finds_66 (by decide) (fun c32 => ?_) (fun c32 => ?_)
              · have h := h.1 c32
                refine ab_iinc (i := 4) (v := (v4 + 1)) d_M_finds_119 rfl rfl (by decide) (Or.inr rfl) ?_
                refine ab_goto (tgt := 7) d_M_finds_122 (by decide) ?_
                refine ab_drop 5 ?_
                refine ab_drop 6 ?_
                exact h
              · have h := h.2 c32
                refine ab_aload_n (i := 3) d_M_finds_69 rfl rfl ?_
                refine ab_iload (i := 5) d_M_finds_70 rfl ?_
                have g33 := h.1; have h := h.2
                refine ab_zald d_M_finds_72 rfl rfl g33 ?_
                refine ab_if_ne (tgt := 119) d_M_finds_73 (by decide) (fun c34 => ?_) (fun c34 => ?_)
                · have h := h.1 c34
                  refine ab_iinc (i := 4) (v := (v4 + 1)) d_M_finds_119 rfl rfl (by decide) (Or.inr rfl) ?_
                  refine ab_goto (tgt := 7) d_M_finds_122 (by decide) ?_
                  refine ab_drop 5 ?_
                  refine ab_drop 6 ?_
                  exact h
                · have h := h.2 c34
                  refine ab_aload_n (i := 0) d_M_finds_76 rfl rfl ?_
                  refine ab_getR (ci := 11) (k := 29) (j := mx_gone) d_M_finds_77 v_1397 rfl (by decide) (by decide) rfl r_mx_29 ?_
                  refine ab_iload (i := 4) d_M_finds_80 rfl ?_
                  have g35 := h.1; have h := h.2
                  refine ab_iald d_M_finds_82 rfl rfl g35 ?_
                  refine ab_iload (i := 6) d_M_finds_83 rfl ?_
                  refine ab_icmp_ne (tgt := 91) d_M_finds_85 (by decide) (fun c36 => ?_) (fun c36 => ?_)
                  · have h := h.1 c36
                    refine ab_aload_n (i := 0) d_M_finds_91 rfl rfl ?_
                    refine ab_iload (i := 5) d_M_finds_92 rfl ?_
                    refine ab_iload_n (i := 2) d_M_finds_94 rfl rfl ?_
                    refine ab_aload_n (i := 3) d_M_finds_95 rfl rfl ?_
                    obtain ⟨r37, I38, hC, h⟩ := h
                    refine ab_callV (me2 := mt_M_finds) (b := mx) (as := [.int (I mx_now (3 + v4).toNatClampNeg), .int v2, .ref mx_metSites]) (st := []) (rv := (some (.int r37))) (M2 := (I38, L, ab_RR, n, nc, ns)) d_M_finds_96 ce_M_finds v_1803 v_1805 v_114 (by decide) rfl (Nat.le_of_ble_eq_true rfl) hC (Nat.le_refl _) (Nat.le_refl _) hc hs (fun j h9 => by cases h9) (fun _ _ => rfl) ?_
                    show ab_E w (d + 1) mt_M_finds 99 [.ref mx, .int v1, .int v2, .ref mx_metSites, .int v4, .int (I mx_now (3 + v4).toNatClampNeg), .int (-1)] [.int r37] (I38, L, ab_RR, n, nc, ns) res
                    refine ab_if_ne (tgt := 105) d_M_finds_99 (by decide) (fun c39 => ?_) (fun c39 => ?_)
                    · have h := h.1 c39
                      refine ab_aload_n (i := 0) d_M_finds_105 rfl rfl ?_
                      refine ab_getR (ci := 11) (k := 29) (j := mx_gone) d_M_finds_106 v_1397 rfl (by decide) (by decide) rfl r_mx_29 ?_
                      refine ab_iload (i := 4) d_M_finds_109 rfl ?_
                      refine ab_dup2 d_M_finds_111 ?_
                      refine ab_iald d_M_finds_112 rfl rfl g35 ?_
                      refine ab_iload (i := 6) d_M_finds_113 rfl ?_
                      refine ab_iadd d_M_finds_115 ?_
                      refine ab_iast d_M_finds_116 rfl rfl g35 ?_
                      refine ab_iconst (v := 1) d_M_finds_117 rfl ?_
                      exact ab_iret (ty := .boolean) d_M_finds_118 rfl rfl h
                    · have h := h.2 c39
                      refine ab_goto (tgt := 119) d_M_finds_102 (by decide) ?_
                      refine ab_iinc (i := 4) (v := (v4 + 1)) d_M_finds_119 rfl rfl (by decide) (Or.inr rfl) ?_
                      refine ab_goto (tgt := 7) d_M_finds_122 (by decide) ?_
                      refine ab_drop 5 ?_
                      refine ab_drop 6 ?_
                      exact h
                  · have h := h.2 c36
                    refine ab_goto (tgt := 119) d_M_finds_88 (by decide) ?_
                    refine ab_iinc (i := 4) (v := (v4 + 1)) d_M_finds_119 rfl rfl (by decide) (Or.inr rfl) ?_
                    refine ab_goto (tgt := 7) d_M_finds_122 (by decide) ?_
                    refine ab_drop 5 ?_
                    refine ab_drop 6 ?_
                    exact h
            · have h := h.2 c31
              refine ab_iconst (v := 1) d_M_finds_56 rfl ?_
              refine ab_goto (tgt := 61) d_M_finds_57 (by decide) ?_
              refine ab_istore (i := 6) d_M_finds_61 (by decide) (Or.inr rfl) ?_
              refine ab_iload (i := 5) d_M_finds_63 rfl ?_
              refine ab_iconst (v := (-1)) d_M_finds_65 rfl ?_
              refine ab_icmp_eq (tgt := 119) d_M_finds_66 (by decide) (fun c40 => ?_) (fun c40 => ?_)
              · have h := h.1 c40
                refine ab_iinc (i := 4) (v := (v4 + 1)) d_M_finds_119 rfl rfl (by decide) (Or.inr rfl) ?_
                refine ab_goto (tgt := 7) d_M_finds_122 (by decide) ?_
                refine ab_drop 5 ?_
                refine ab_drop 6 ?_
                exact h
              · have h := h.2 c40
                refine ab_aload_n (i := 3) d_M_finds_69 rfl rfl ?_
                refine ab_iload (i := 5) d_M_finds_70 rfl ?_
                have g41 := h.1; have h := h.2
                refine ab_zald d_M_finds_72 rfl rfl g41 ?_
                refine ab_if_ne (tgt := 119) d_M_finds_73 (by decide) (fun c42 => ?_) (fun c42 => ?_)
                · have h := h.1 c42
                  refine ab_iinc (i := 4) (v := (v4 + 1)) d_M_finds_119 rfl rfl (by decide) (Or.inr rfl) ?_
                  refine ab_goto (tgt := 7) d_M_finds_122 (by decide) ?_
                  refine ab_drop 5 ?_
                  refine ab_drop 6 ?_
                  exact h
                · have h := h.2 c42
                  refine ab_aload_n (i := 0) d_M_finds_76 rfl rfl ?_
                  refine ab_getR (ci := 11) (k := 29) (j := mx_gone) d_M_finds_77 v_1397 rfl (by decide) (by decide) rfl r_mx_29 ?_
                  refine ab_iload (i := 4) d_M_finds_80 rfl ?_
                  have g43 := h.1; have h := h.2
                  refine ab_iald d_M_finds_82 rfl rfl g43 ?_
                  refine ab_iload (i := 6) d_M_finds_83 rfl ?_
                  refine ab_icmp_ne (tgt := 91) d_M_finds_85 (by decide) (fun c44 => ?_) (fun c44 => ?_)
                  · have h := h.1 c44
                    refine ab_aload_n (i := 0) d_M_finds_91 rfl rfl ?_
                    refine ab_iload (i := 5) d_M_finds_92 rfl ?_
                    refine ab_iload_n (i := 2) d_M_finds_94 rfl rfl ?_
                    refine ab_aload_n (i := 3) d_M_finds_95 rfl rfl ?_
                    obtain ⟨r45, I46, hC, h⟩ := h
                    refine ab_callV (me2 := mt_M_finds) (b := mx) (as := [.int (I mx_now (3 + v4).toNatClampNeg), .int v2, .ref mx_metSites]) (st := []) (rv := (some (.int r45))) (M2 := (I46, L, ab_RR, n, nc, ns)) d_M_finds_96 ce_M_finds v_1803 v_1805 v_114 (by decide) rfl (Nat.le_of_ble_eq_true rfl) hC (Nat.le_refl _) (Nat.le_refl _) hc hs (fun j h9 => by cases h9) (fun _ _ => rfl) ?_
                    show ab_E w (d + 1) mt_M_finds 99 [.ref mx, .int v1, .int v2, .ref mx_metSites, .int v4, .int (I mx_now (3 + v4).toNatClampNeg), .int 1] [.int r45] (I46, L, ab_RR, n, nc, ns) res
                    refine ab_if_ne (tgt := 105) d_M_finds_99 (by decide) (fun c47 => ?_) (fun c47 => ?_)
                    · have h := h.1 c47
                      refine ab_aload_n (i := 0) d_M_finds_105 rfl rfl ?_
                      refine ab_getR (ci := 11) (k := 29) (j := mx_gone) d_M_finds_106 v_1397 rfl (by decide) (by decide) rfl r_mx_29 ?_
                      refine ab_iload (i := 4) d_M_finds_109 rfl ?_
                      refine ab_dup2 d_M_finds_111 ?_
                      refine ab_iald d_M_finds_112 rfl rfl g43 ?_
                      refine ab_iload (i := 6) d_M_finds_113 rfl ?_
                      refine ab_iadd d_M_finds_115 ?_
                      refine ab_iast d_M_finds_116 rfl rfl g43 ?_
                      refine ab_iconst (v := 1) d_M_finds_117 rfl ?_
                      exact ab_iret (ty := .boolean) d_M_finds_118 rfl rfl h
                    · have h := h.2 c47
                      refine ab_goto (tgt := 119) d_M_finds_102 (by decide) ?_
                      refine ab_iinc (i := 4) (v := (v4 + 1)) d_M_finds_119 rfl rfl (by decide) (Or.inr rfl) ?_
                      refine ab_goto (tgt := 7) d_M_finds_122 (by decide) ?_
                      refine ab_drop 5 ?_
                      refine ab_drop 6 ?_
                      exact h
                  · have h := h.2 c44
                    refine ab_goto (tgt := 119) d_M_finds_88 (by decide) ?_
                    refine ab_iinc (i := 4) (v := (v4 + 1)) d_M_finds_119 rfl rfl (by decide) (Or.inr rfl) ?_
                    refine ab_goto (tgt := 7) d_M_finds_122 (by decide) ?_
                    refine ab_drop 5 ?_
                    refine ab_drop 6 ?_
                    exact h
          · have h := h.2 c30
            refine ab_callV (me2 := mt_M_otherEnd) (b := mx) (as := [.int v4, .int v1]) (st := []) (rv := (some (.int (-1)))) (M2 := (I, L, ab_RR, n, nc, ns)) d_M_finds_34 ce_M_otherEnd v_1691 v_1693 v_92 (by decide) rfl (Nat.le_of_ble_eq_true rfl) (cx_M_otherEnd_0 v4 v1 hT g9 c10 g29 c30) (Nat.le_refl _) (Nat.le_refl _) hc hs (fun j h9 => by cases h9) (fun _ _ => rfl) ?_
            show ab_E w (d + 1) mt_M_finds 37 [.ref mx, .int v1, .int v2, .ref mx_metSites, .int v4, .null, .null] [.int (-1)] (I, L, ab_RR, n, nc, ns) res
            refine ab_goto (tgt := 41) d_M_finds_37 (by decide) ?_
            refine ab_istore (i := 5) d_M_finds_41 (by decide) (Or.inr rfl) ?_
            refine ab_aload_n (i := 0) d_M_finds_43 rfl rfl ?_
            refine ab_getR (ci := 11) (k := 4) (j := mx_now) d_M_finds_44 v_1372 rfl (by decide) (by decide) rfl r_mx_4 ?_
            refine ab_iconst (v := 3) d_M_finds_47 rfl ?_
            refine ab_iload (i := 4) d_M_finds_48 rfl ?_
            refine ab_iadd d_M_finds_50 ?_
            refine ab_iald d_M_finds_51 rfl rfl g9 ?_
            refine ab_iload_n (i := 1) d_M_finds_52 rfl rfl ?_
            refine ab_icmp_ne (tgt := 60) d_M_finds_53 (by decide) (fun c48 => ?_) (fun c48 => ?_)
            · have h := h.1 c48
              refine ab_iconst (v := (-1)) d_M_finds_60 rfl ?_
              refine ab_istore (i := 6) d_M_finds_61 (by decide) (Or.inr rfl) ?_
              refine ab_iload (i := 5) d_M_finds_63 rfl ?_
              refine ab_iconst (v := (-1)) d_M_finds_65 rfl ?_
              refine ab_icmp_eq (tgt := 119) d_M_finds_66 (by decide) (fun _ => ?_) (fun c9 => absurd (show ((-1) : Int32) = (-1) from by decide) c9)
              refine ab_iinc (i := 4) (v := (v4 + 1)) d_M_finds_119 rfl rfl (by decide) (Or.inr rfl) ?_
              refine ab_goto (tgt := 7) d_M_finds_122 (by decide) ?_
              refine ab_drop 5 ?_
              refine ab_drop 6 ?_
              exact h
            · have h := h.2 c48
              refine ab_iconst (v := 1) d_M_finds_56 rfl ?_
              refine ab_goto (tgt := 61) d_M_finds_57 (by decide) ?_
              refine ab_istore (i := 6) d_M_finds_61 (by decide) (Or.inr rfl) ?_
              refine ab_iload (i := 5) d_M_finds_63 rfl ?_
              refine ab_iconst (v := (-1)) d_M_finds_65 rfl ?_
              refine ab_icmp_eq (tgt := 119) d_M_finds_66 (by decide) (fun _ => ?_) (fun c9 => absurd (show ((-1) : Int32) = (-1) from by decide) c9)
              refine ab_iinc (i := 4) (v := (v4 + 1)) d_M_finds_119 rfl rfl (by decide) (Or.inr rfl) ?_
              refine ab_goto (tgt := 7) d_M_finds_122 (by decide) ?_
              refine ab_drop 5 ?_
              refine ab_drop 6 ?_
              exact h
      · have h := h.2 c7
        refine ab_callV (me2 := mt_M_isSound) (b := mx) (as := [.int v4]) (st := []) (rv := (some (.int 0))) (M2 := (I, L, ab_RR, n, nc, ns)) d_M_finds_24 ce_M_isSound v_1679 v_1681 v_89 (by decide) rfl (Nat.le_of_ble_eq_true rfl) (cx_M_isSound_0 v4 hT (show (vp_in 1 399) from by unfold vp_in; decide) c7) (Nat.le_refl _) (Nat.le_refl _) hc hs (fun j h9 => by cases h9) (fun _ _ => rfl) ?_
        show ab_E w (d + 1) mt_M_finds 27 [.ref mx, .int v1, .int v2, .ref mx_metSites, .int v4, .null, .null] [.int 0] (I, L, ab_RR, n, nc, ns) res
        refine ab_if_eq (tgt := 40) d_M_finds_27 (by decide) (fun _ => ?_) (fun c9 => absurd (show (0 : Int32) = 0 from by decide) c9)
        refine ab_iconst (v := (-1)) d_M_finds_40 rfl ?_
        refine ab_istore (i := 5) d_M_finds_41 (by decide) (Or.inr rfl) ?_
        refine ab_aload_n (i := 0) d_M_finds_43 rfl rfl ?_
        refine ab_getR (ci := 11) (k := 4) (j := mx_now) d_M_finds_44 v_1372 rfl (by decide) (by decide) rfl r_mx_4 ?_
        refine ab_iconst (v := 3) d_M_finds_47 rfl ?_
        refine ab_iload (i := 4) d_M_finds_48 rfl ?_
        refine ab_iadd d_M_finds_50 ?_
        have g49 := h.1; have h := h.2
        refine ab_iald d_M_finds_51 rfl rfl g49 ?_
        refine ab_iload_n (i := 1) d_M_finds_52 rfl rfl ?_
        refine ab_icmp_ne (tgt := 60) d_M_finds_53 (by decide) (fun c50 => ?_) (fun c50 => ?_)
        · have h := h.1 c50
          refine ab_iconst (v := (-1)) d_M_finds_60 rfl ?_
          refine ab_istore (i := 6) d_M_finds_61 (by decide) (Or.inr rfl) ?_
          refine ab_iload (i := 5) d_M_finds_63 rfl ?_
          refine ab_iconst (v := (-1)) d_M_finds_65 rfl ?_
          refine ab_icmp_eq (tgt := 119) d_M_finds_66 (by decide) (fun _ => ?_) (fun c9 => absurd (show ((-1) : Int32) = (-1) from by decide) c9)
          refine ab_iinc (i := 4) (v := (v4 + 1)) d_M_finds_119 rfl rfl (by decide) (Or.inr rfl) ?_
          refine ab_goto (tgt := 7) d_M_finds_122 (by decide) ?_
          refine ab_drop 5 ?_
          refine ab_drop 6 ?_
          exact h
        · have h := h.2 c50
          refine ab_iconst (v := 1) d_M_finds_56 rfl ?_
          refine ab_goto (tgt := 61) d_M_finds_57 (by decide) ?_
          refine ab_istore (i := 6) d_M_finds_61 (by decide) (Or.inr rfl) ?_
          refine ab_iload (i := 5) d_M_finds_63 rfl ?_
          refine ab_iconst (v := (-1)) d_M_finds_65 rfl ?_
          refine ab_icmp_eq (tgt := 119) d_M_finds_66 (by decide) (fun _ => ?_) (fun c9 => absurd (show ((-1) : Int32) = (-1) from by decide) c9)
          refine ab_iinc (i := 4) (v := (v4 + 1)) d_M_finds_119 rfl rfl (by decide) (Or.inr rfl) ?_
          refine ab_goto (tgt := 7) d_M_finds_122 (by decide) ?_
          refine ab_drop 5 ?_
          refine ab_drop 6 ?_
          exact h
theorem r_M_copyTo_1_0 {w : ab_Wd} {d n nc ns : Nat} {I : Nat → Nat → Int32} {L : Nat → Nat → Int64} {res : ab_Re} (hT : w.1.stackTraces = false)  (hc : nc ≤ res.2.2.2.2.2.1) (hs : ns ≤ res.2.2.2.2.2.2)
    (h : ab_E w d mt_M_copyTo 2 [.ref mx_level, .ref mx_piece, .int 0] [] (I, L, ab_RR, n, nc, ns) res) : ab_E w d mt_M_copyTo 0 [.ref mx_level, .ref mx_piece, .null] [] (I, L, ab_RR, n, nc, ns) res := by
  refine ab_iconst (v := 0) d_M_copyTo_0 rfl ?_
  refine ab_istore_n (i := 2) d_M_copyTo_1 rfl (by decide) (Or.inr rfl) ?_
  exact h
theorem r_M_copyTo_1_2 {w : ab_Wd} {d n nc ns : Nat} {I : Nat → Nat → Int32} {L : Nat → Nat → Int64} {res : ab_Re} (hT : w.1.stackTraces = false) (v2 : Int32) (hc : nc ≤ res.2.2.2.2.2.1) (hs : ns ≤ res.2.2.2.2.2.2)
    (h : ((10 ≤ v2 → (res = (.inl none, (I, L, ab_RR, n, nc, ns)))) ∧ (¬ 10 ≤ v2 → ((vp_in v2 10) ∧ ab_E w d mt_M_copyTo 2 [.ref mx_level, .ref mx_piece, .int (v2 + 1)] [] ((ab_up I mx_level v2.toNatClampNeg (I mx_piece v2.toNatClampNeg)), L, ab_RR, n, nc, ns) res)))) : ab_E w d mt_M_copyTo 2 [.ref mx_level, .ref mx_piece, .int v2] [] (I, L, ab_RR, n, nc, ns) res := by
  refine ab_iload_n (i := 2) d_M_copyTo_2 rfl rfl ?_
  refine ab_aload_n (i := 0) d_M_copyTo_3 rfl rfl ?_
  refine ab_alen (v := 10) d_M_copyTo_4 (by decide) (by decide) rfl ?_
  refine ab_icmp_ge (tgt := 20) d_M_copyTo_5 (by decide) (fun c1 => ?_) (fun c1 => ?_)
  · have h := h.1 c1
    exact ab_vret d_M_copyTo_20 rfl h
  · have h := h.2 c1
    refine ab_aload_n (i := 0) d_M_copyTo_8 rfl rfl ?_
    refine ab_iload_n (i := 2) d_M_copyTo_9 rfl rfl ?_
    refine ab_aload_n (i := 1) d_M_copyTo_10 rfl rfl ?_
    refine ab_iload_n (i := 2) d_M_copyTo_11 rfl rfl ?_
    have g2 := h.1; have h := h.2
    refine ab_iald d_M_copyTo_12 rfl rfl g2 ?_
    refine ab_iast d_M_copyTo_13 rfl rfl g2 ?_
    refine ab_iinc (i := 2) (v := (v2 + 1)) d_M_copyTo_14 rfl rfl (by decide) (Or.inr rfl) ?_
    refine ab_goto (tgt := 2) d_M_copyTo_17 (by decide) ?_
    exact h
theorem r_M_tellWord_0 {w : ab_Wd} {d n nc ns : Nat} {I : Nat → Nat → Int32} {L : Nat → Nat → Int64} {res : ab_Re} (hT : w.1.stackTraces = false) {j : Nat} (hj : j < 8) (hc : nc ≤ res.2.2.2.2.2.1) (hs : ns ≤ res.2.2.2.2.2.2)
    (h : ab_E w (d + 1) mt_M_tellWord 2 [.ref mx, .ref (64 * j + 32), .int 0] [] (I, L, ab_RR, n, nc, ns) res) : ab_E w (d + 1) mt_M_tellWord 0 [.ref mx, .ref (64 * j + 32), .null] [] (I, L, ab_RR, n, nc, ns) res := by
  refine ab_iconst (v := 0) d_M_tellWord_0 rfl ?_
  refine ab_istore_n (i := 2) d_M_tellWord_1 rfl (by decide) (Or.inr rfl) ?_
  exact h
theorem r_M_tellWord_2 {w : ab_Wd} {d n nc ns : Nat} {I : Nat → Nat → Int32} {L : Nat → Nat → Int64} {res : ab_Re} (hT : w.1.stackTraces = false) {j : Nat} (hj : j < 8) (v2 : Int32) (hc : nc ≤ res.2.2.2.2.2.1) (hs : ns ≤ res.2.2.2.2.2.2)
    (h : ∃ (r1 : Int32), ab_C w d mt_Str_length [.ref (64 * j + 32)] (I, L, ab_RR, n, nc, ns) (.inl (some (.int r1)), (I, L, ab_RR, n, nc, ns)) ∧ ((r1 ≤ v2 → (res = (.inl none, (I, L, ab_RR, n, nc, ns)))) ∧ (¬ r1 ≤ v2 → (∃ (r3 : Int32), ab_C w d mt_Str_charAt [.ref (64 * j + 32), .int v2] (I, L, ab_RR, n, nc, ns) (.inl (some (.int r3)), (I, L, ab_RR, n, nc, ns)) ∧ (((I mx 38) = (I mx 37) → (ab_E w (d + 1) mt_M_tellWord 2 [.ref mx, .ref (64 * j + 32), .int (v2 + 1)] [] ((ab_up (ab_up I mx 39 r3) mx 38 ((I mx 38) + 1)), L, ab_RR, n, nc, ns) res)) ∧ (¬ (I mx 38) = (I mx 37) → (ab_E w (d + 1) mt_M_tellWord 2 [.ref mx, .ref (64 * j + 32), .int (v2 + 1)] [] ((ab_up I mx 38 ((I mx 38) + 1)), L, ab_RR, n, nc, ns) res))))))) : ab_E w (d + 1) mt_M_tellWord 2 [.ref mx, .ref (64 * j + 32), .int v2] [] (I, L, ab_RR, n, nc, ns) res := by
  refine ab_iload_n (i := 2) d_M_tellWord_2 rfl rfl ?_
  refine ab_aload_n (i := 1) d_M_tellWord_3 rfl rfl ?_
  obtain ⟨r1, hC, h⟩ := h
  refine ab_callT (me2 := mt_Str_length) (j := j) (as := []) (st := [.int v2]) (rv := (some (.int r1))) (M2 := (I, L, ab_RR, n, nc, ns)) d_M_tellWord_4 hj ce_Str_length v_1594 v_834 v_835 rfl (Nat.le_of_ble_eq_true rfl) hC (Nat.le_refl _) (Nat.le_refl _) hc hs (fun j h9 => by cases h9) (fun _ _ => rfl) ?_
  show ab_E w (d + 1) mt_M_tellWord 7 [.ref mx, .ref (64 * j + 32), .int v2] [.int r1, .int v2] (I, L, ab_RR, n, nc, ns) res
  refine ab_icmp_ge (tgt := 25) d_M_tellWord_7 (by decide) (fun c2 => ?_) (fun c2 => ?_)
  · have h := h.1 c2
    exact ab_vret d_M_tellWord_25 rfl h
  · have h := h.2 c2
    refine ab_aload_n (i := 0) d_M_tellWord_10 rfl rfl ?_
    refine ab_aload_n (i := 1) d_M_tellWord_11 rfl rfl ?_
    refine ab_iload_n (i := 2) d_M_tellWord_12 rfl rfl ?_
    obtain ⟨r3, hC, h⟩ := h
    refine ab_callT (me2 := mt_Str_charAt) (j := j) (as := [.int v2]) (st := [.ref mx]) (rv := (some (.int r3))) (M2 := (I, L, ab_RR, n, nc, ns)) d_M_tellWord_13 hj ce_Str_charAt v_1595 v_844 v_845 rfl (Nat.le_of_ble_eq_true rfl) hC (Nat.le_refl _) (Nat.le_refl _) hc hs (fun j h9 => by cases h9) (fun _ _ => rfl) ?_
    show ab_E w (d + 1) mt_M_tellWord 16 [.ref mx, .ref (64 * j + 32), .int v2] [.int r3, .ref mx] (I, L, ab_RR, n, nc, ns) res
    by_cases c6 : (I mx 38) = (I mx 37)
    · have h := h.1 c6
      refine ab_callV (me2 := mt_M_tellByte) (b := mx) (as := [.int r3]) (st := []) (rv := none) (M2 := ((ab_up (ab_up I mx 39 r3) mx 38 ((I mx 38) + 1)), L, ab_RR, n, nc, ns)) d_M_tellWord_16 ce_M_tellByte v_1853 v_1855 v_121 (by decide) rfl (Nat.le_of_ble_eq_true rfl) (cx_M_tellByte_1 r3 hT c6) (Nat.le_refl _) (Nat.le_refl _) hc hs (fun j h9 => by cases h9) (fun _ _ => rfl) ?_
      show ab_E w (d + 1) mt_M_tellWord 19 [.ref mx, .ref (64 * j + 32), .int v2] [] ((ab_up (ab_up I mx 39 r3) mx 38 ((I mx 38) + 1)), L, ab_RR, n, nc, ns) res
      refine ab_iinc (i := 2) (v := (v2 + 1)) d_M_tellWord_19 rfl rfl (by decide) (Or.inr rfl) ?_
      refine ab_goto (tgt := 2) d_M_tellWord_22 (by decide) ?_
      exact h
    · have h := h.2 c6
      refine ab_callV (me2 := mt_M_tellByte) (b := mx) (as := [.int r3]) (st := []) (rv := none) (M2 := ((ab_up I mx 38 ((I mx 38) + 1)), L, ab_RR, n, nc, ns)) d_M_tellWord_16 ce_M_tellByte v_1853 v_1855 v_121 (by decide) rfl (Nat.le_of_ble_eq_true rfl) (cx_M_tellByte_0 r3 hT c6) (Nat.le_refl _) (Nat.le_refl _) hc hs (fun j h9 => by cases h9) (fun _ _ => rfl) ?_
      show ab_E w (d + 1) mt_M_tellWord 19 [.ref mx, .ref (64 * j + 32), .int v2] [] ((ab_up I mx 38 ((I mx 38) + 1)), L, ab_RR, n, nc, ns) res
      refine ab_iinc (i := 2) (v := (v2 + 1)) d_M_tellWord_19 rfl rfl (by decide) (Or.inr rfl) ?_
      refine ab_goto (tgt := 2) d_M_tellWord_22 (by decide) ?_
      exact h
theorem r_M_copyTo_2_0 {w : ab_Wd} {d n nc ns : Nat} {I : Nat → Nat → Int32} {L : Nat → Nat → Int64} {res : ab_Re} (hT : w.1.stackTraces = false)  (hc : nc ≤ res.2.2.2.2.2.1) (hs : ns ≤ res.2.2.2.2.2.2)
    (h : ab_E w d mt_M_copyTo 2 [.ref mx_now, .ref mx_rowThen, .int 0] [] (I, L, ab_RR, n, nc, ns) res) : ab_E w d mt_M_copyTo 0 [.ref mx_now, .ref mx_rowThen, .null] [] (I, L, ab_RR, n, nc, ns) res := by
  refine ab_iconst (v := 0) d_M_copyTo_0 rfl ?_
  refine ab_istore_n (i := 2) d_M_copyTo_1 rfl (by decide) (Or.inr rfl) ?_
  exact h
theorem r_M_copyTo_2_2 {w : ab_Wd} {d n nc ns : Nat} {I : Nat → Nat → Int32} {L : Nat → Nat → Int64} {res : ab_Re} (hT : w.1.stackTraces = false) (v2 : Int32) (hc : nc ≤ res.2.2.2.2.2.1) (hs : ns ≤ res.2.2.2.2.2.2)
    (h : ((399 ≤ v2 → (res = (.inl none, (I, L, ab_RR, n, nc, ns)))) ∧ (¬ 399 ≤ v2 → ((vp_in v2 399) ∧ ab_E w d mt_M_copyTo 2 [.ref mx_now, .ref mx_rowThen, .int (v2 + 1)] [] ((ab_up I mx_now v2.toNatClampNeg (I mx_rowThen v2.toNatClampNeg)), L, ab_RR, n, nc, ns) res)))) : ab_E w d mt_M_copyTo 2 [.ref mx_now, .ref mx_rowThen, .int v2] [] (I, L, ab_RR, n, nc, ns) res := by
  refine ab_iload_n (i := 2) d_M_copyTo_2 rfl rfl ?_
  refine ab_aload_n (i := 0) d_M_copyTo_3 rfl rfl ?_
  refine ab_alen (v := 399) d_M_copyTo_4 (by decide) (by decide) rfl ?_
  refine ab_icmp_ge (tgt := 20) d_M_copyTo_5 (by decide) (fun c1 => ?_) (fun c1 => ?_)
  · have h := h.1 c1
    exact ab_vret d_M_copyTo_20 rfl h
  · have h := h.2 c1
    refine ab_aload_n (i := 0) d_M_copyTo_8 rfl rfl ?_
    refine ab_iload_n (i := 2) d_M_copyTo_9 rfl rfl ?_
    refine ab_aload_n (i := 1) d_M_copyTo_10 rfl rfl ?_
    refine ab_iload_n (i := 2) d_M_copyTo_11 rfl rfl ?_
    have g2 := h.1; have h := h.2
    refine ab_iald d_M_copyTo_12 rfl rfl g2 ?_
    refine ab_iast d_M_copyTo_13 rfl rfl g2 ?_
    refine ab_iinc (i := 2) (v := (v2 + 1)) d_M_copyTo_14 rfl rfl (by decide) (Or.inr rfl) ?_
    refine ab_goto (tgt := 2) d_M_copyTo_17 (by decide) ?_
    exact h
theorem r_M_copyTo_3_0 {w : ab_Wd} {d n nc ns : Nat} {I : Nat → Nat → Int32} {L : Nat → Nat → Int64} {res : ab_Re} (hT : w.1.stackTraces = false)  (hc : nc ≤ res.2.2.2.2.2.1) (hs : ns ≤ res.2.2.2.2.2.2)
    (h : ab_E w d mt_M_copyTo 2 [.ref mx_rowThen, .ref mx_now, .int 0] [] (I, L, ab_RR, n, nc, ns) res) : ab_E w d mt_M_copyTo 0 [.ref mx_rowThen, .ref mx_now, .null] [] (I, L, ab_RR, n, nc, ns) res := by
  refine ab_iconst (v := 0) d_M_copyTo_0 rfl ?_
  refine ab_istore_n (i := 2) d_M_copyTo_1 rfl (by decide) (Or.inr rfl) ?_
  exact h
theorem r_M_copyTo_3_2 {w : ab_Wd} {d n nc ns : Nat} {I : Nat → Nat → Int32} {L : Nat → Nat → Int64} {res : ab_Re} (hT : w.1.stackTraces = false) (v2 : Int32) (hc : nc ≤ res.2.2.2.2.2.1) (hs : ns ≤ res.2.2.2.2.2.2)
    (h : ((399 ≤ v2 → (res = (.inl none, (I, L, ab_RR, n, nc, ns)))) ∧ (¬ 399 ≤ v2 → ((vp_in v2 399) ∧ ab_E w d mt_M_copyTo 2 [.ref mx_rowThen, .ref mx_now, .int (v2 + 1)] [] ((ab_up I mx_rowThen v2.toNatClampNeg (I mx_now v2.toNatClampNeg)), L, ab_RR, n, nc, ns) res)))) : ab_E w d mt_M_copyTo 2 [.ref mx_rowThen, .ref mx_now, .int v2] [] (I, L, ab_RR, n, nc, ns) res := by
  refine ab_iload_n (i := 2) d_M_copyTo_2 rfl rfl ?_
  refine ab_aload_n (i := 0) d_M_copyTo_3 rfl rfl ?_
  refine ab_alen (v := 399) d_M_copyTo_4 (by decide) (by decide) rfl ?_
  refine ab_icmp_ge (tgt := 20) d_M_copyTo_5 (by decide) (fun c1 => ?_) (fun c1 => ?_)
  · have h := h.1 c1
    exact ab_vret d_M_copyTo_20 rfl h
  · have h := h.2 c1
    refine ab_aload_n (i := 0) d_M_copyTo_8 rfl rfl ?_
    refine ab_iload_n (i := 2) d_M_copyTo_9 rfl rfl ?_
    refine ab_aload_n (i := 1) d_M_copyTo_10 rfl rfl ?_
    refine ab_iload_n (i := 2) d_M_copyTo_11 rfl rfl ?_
    have g2 := h.1; have h := h.2
    refine ab_iald d_M_copyTo_12 rfl rfl g2 ?_
    refine ab_iast d_M_copyTo_13 rfl rfl g2 ?_
    refine ab_iinc (i := 2) (v := (v2 + 1)) d_M_copyTo_14 rfl rfl (by decide) (Or.inr rfl) ?_
    refine ab_goto (tgt := 2) d_M_copyTo_17 (by decide) ?_
    exact h
theorem r_M_copyTo_4_0 {w : ab_Wd} {d n nc ns : Nat} {I : Nat → Nat → Int32} {L : Nat → Nat → Int64} {res : ab_Re} (hT : w.1.stackTraces = false)  (hc : nc ≤ res.2.2.2.2.2.1) (hs : ns ≤ res.2.2.2.2.2.2)
    (h : ab_E w d mt_M_copyTo 2 [.ref mx_imageRow, .ref mx_now, .int 0] [] (I, L, ab_RR, n, nc, ns) res) : ab_E w d mt_M_copyTo 0 [.ref mx_imageRow, .ref mx_now, .null] [] (I, L, ab_RR, n, nc, ns) res := by
  refine ab_iconst (v := 0) d_M_copyTo_0 rfl ?_
  refine ab_istore_n (i := 2) d_M_copyTo_1 rfl (by decide) (Or.inr rfl) ?_
  exact h
theorem r_M_copyTo_4_2 {w : ab_Wd} {d n nc ns : Nat} {I : Nat → Nat → Int32} {L : Nat → Nat → Int64} {res : ab_Re} (hT : w.1.stackTraces = false) (v2 : Int32) (hc : nc ≤ res.2.2.2.2.2.1) (hs : ns ≤ res.2.2.2.2.2.2)
    (h : ((399 ≤ v2 → (res = (.inl none, (I, L, ab_RR, n, nc, ns)))) ∧ (¬ 399 ≤ v2 → ((vp_in v2 399) ∧ ab_E w d mt_M_copyTo 2 [.ref mx_imageRow, .ref mx_now, .int (v2 + 1)] [] ((ab_up I mx_imageRow v2.toNatClampNeg (I mx_now v2.toNatClampNeg)), L, ab_RR, n, nc, ns) res)))) : ab_E w d mt_M_copyTo 2 [.ref mx_imageRow, .ref mx_now, .int v2] [] (I, L, ab_RR, n, nc, ns) res := by
  refine ab_iload_n (i := 2) d_M_copyTo_2 rfl rfl ?_
  refine ab_aload_n (i := 0) d_M_copyTo_3 rfl rfl ?_
  refine ab_alen (v := 399) d_M_copyTo_4 (by decide) (by decide) rfl ?_
  refine ab_icmp_ge (tgt := 20) d_M_copyTo_5 (by decide) (fun c1 => ?_) (fun c1 => ?_)
  · have h := h.1 c1
    exact ab_vret d_M_copyTo_20 rfl h
  · have h := h.2 c1
    refine ab_aload_n (i := 0) d_M_copyTo_8 rfl rfl ?_
    refine ab_iload_n (i := 2) d_M_copyTo_9 rfl rfl ?_
    refine ab_aload_n (i := 1) d_M_copyTo_10 rfl rfl ?_
    refine ab_iload_n (i := 2) d_M_copyTo_11 rfl rfl ?_
    have g2 := h.1; have h := h.2
    refine ab_iald d_M_copyTo_12 rfl rfl g2 ?_
    refine ab_iast d_M_copyTo_13 rfl rfl g2 ?_
    refine ab_iinc (i := 2) (v := (v2 + 1)) d_M_copyTo_14 rfl rfl (by decide) (Or.inr rfl) ?_
    refine ab_goto (tgt := 2) d_M_copyTo_17 (by decide) ?_
    exact h
theorem r_M_copyTo_5_0 {w : ab_Wd} {d n nc ns : Nat} {I : Nat → Nat → Int32} {L : Nat → Nat → Int64} {res : ab_Re} (hT : w.1.stackTraces = false)  (hc : nc ≤ res.2.2.2.2.2.1) (hs : ns ≤ res.2.2.2.2.2.2)
    (h : ab_E w d mt_M_copyTo 2 [.ref mx_pastThen, .ref mx_past, .int 0] [] (I, L, ab_RR, n, nc, ns) res) : ab_E w d mt_M_copyTo 0 [.ref mx_pastThen, .ref mx_past, .null] [] (I, L, ab_RR, n, nc, ns) res := by
  refine ab_iconst (v := 0) d_M_copyTo_0 rfl ?_
  refine ab_istore_n (i := 2) d_M_copyTo_1 rfl (by decide) (Or.inr rfl) ?_
  exact h
theorem r_M_copyTo_5_2 {w : ab_Wd} {d n nc ns : Nat} {I : Nat → Nat → Int32} {L : Nat → Nat → Int64} {res : ab_Re} (hT : w.1.stackTraces = false) (v2 : Int32) (hc : nc ≤ res.2.2.2.2.2.1) (hs : ns ≤ res.2.2.2.2.2.2)
    (h : ((15960 ≤ v2 → (res = (.inl none, (I, L, ab_RR, n, nc, ns)))) ∧ (¬ 15960 ≤ v2 → ((vp_in v2 15960) ∧ ab_E w d mt_M_copyTo 2 [.ref mx_pastThen, .ref mx_past, .int (v2 + 1)] [] ((ab_up I mx_pastThen v2.toNatClampNeg (I mx_past v2.toNatClampNeg)), L, ab_RR, n, nc, ns) res)))) : ab_E w d mt_M_copyTo 2 [.ref mx_pastThen, .ref mx_past, .int v2] [] (I, L, ab_RR, n, nc, ns) res := by
  refine ab_iload_n (i := 2) d_M_copyTo_2 rfl rfl ?_
  refine ab_aload_n (i := 0) d_M_copyTo_3 rfl rfl ?_
  refine ab_alen (v := 15960) d_M_copyTo_4 (by decide) (by decide) rfl ?_
  refine ab_icmp_ge (tgt := 20) d_M_copyTo_5 (by decide) (fun c1 => ?_) (fun c1 => ?_)
  · have h := h.1 c1
    exact ab_vret d_M_copyTo_20 rfl h
  · have h := h.2 c1
    refine ab_aload_n (i := 0) d_M_copyTo_8 rfl rfl ?_
    refine ab_iload_n (i := 2) d_M_copyTo_9 rfl rfl ?_
    refine ab_aload_n (i := 1) d_M_copyTo_10 rfl rfl ?_
    refine ab_iload_n (i := 2) d_M_copyTo_11 rfl rfl ?_
    have g2 := h.1; have h := h.2
    refine ab_iald d_M_copyTo_12 rfl rfl g2 ?_
    refine ab_iast d_M_copyTo_13 rfl rfl g2 ?_
    refine ab_iinc (i := 2) (v := (v2 + 1)) d_M_copyTo_14 rfl rfl (by decide) (Or.inr rfl) ?_
    refine ab_goto (tgt := 2) d_M_copyTo_17 (by decide) ?_
    exact h
theorem r_M_copyTo_6_0 {w : ab_Wd} {d n nc ns : Nat} {I : Nat → Nat → Int32} {L : Nat → Nat → Int64} {res : ab_Re} (hT : w.1.stackTraces = false)  (hc : nc ≤ res.2.2.2.2.2.1) (hs : ns ≤ res.2.2.2.2.2.2)
    (h : ab_E w d mt_M_copyTo 2 [.ref mx_notedCableThen, .ref mx_notedCable, .int 0] [] (I, L, ab_RR, n, nc, ns) res) : ab_E w d mt_M_copyTo 0 [.ref mx_notedCableThen, .ref mx_notedCable, .null] [] (I, L, ab_RR, n, nc, ns) res := by
  refine ab_iconst (v := 0) d_M_copyTo_0 rfl ?_
  refine ab_istore_n (i := 2) d_M_copyTo_1 rfl (by decide) (Or.inr rfl) ?_
  exact h
theorem r_M_copyTo_6_2 {w : ab_Wd} {d n nc ns : Nat} {I : Nat → Nat → Int32} {L : Nat → Nat → Int64} {res : ab_Re} (hT : w.1.stackTraces = false) (v2 : Int32) (hc : nc ≤ res.2.2.2.2.2.1) (hs : ns ≤ res.2.2.2.2.2.2)
    (h : ((8 ≤ v2 → (res = (.inl none, (I, L, ab_RR, n, nc, ns)))) ∧ (¬ 8 ≤ v2 → ((vp_in v2 8) ∧ ab_E w d mt_M_copyTo 2 [.ref mx_notedCableThen, .ref mx_notedCable, .int (v2 + 1)] [] ((ab_up I mx_notedCableThen v2.toNatClampNeg (I mx_notedCable v2.toNatClampNeg)), L, ab_RR, n, nc, ns) res)))) : ab_E w d mt_M_copyTo 2 [.ref mx_notedCableThen, .ref mx_notedCable, .int v2] [] (I, L, ab_RR, n, nc, ns) res := by
  refine ab_iload_n (i := 2) d_M_copyTo_2 rfl rfl ?_
  refine ab_aload_n (i := 0) d_M_copyTo_3 rfl rfl ?_
  refine ab_alen (v := 8) d_M_copyTo_4 (by decide) (by decide) rfl ?_
  refine ab_icmp_ge (tgt := 20) d_M_copyTo_5 (by decide) (fun c1 => ?_) (fun c1 => ?_)
  · have h := h.1 c1
    exact ab_vret d_M_copyTo_20 rfl h
  · have h := h.2 c1
    refine ab_aload_n (i := 0) d_M_copyTo_8 rfl rfl ?_
    refine ab_iload_n (i := 2) d_M_copyTo_9 rfl rfl ?_
    refine ab_aload_n (i := 1) d_M_copyTo_10 rfl rfl ?_
    refine ab_iload_n (i := 2) d_M_copyTo_11 rfl rfl ?_
    have g2 := h.1; have h := h.2
    refine ab_iald d_M_copyTo_12 rfl rfl g2 ?_
    refine ab_iast d_M_copyTo_13 rfl rfl g2 ?_
    refine ab_iinc (i := 2) (v := (v2 + 1)) d_M_copyTo_14 rfl rfl (by decide) (Or.inr rfl) ?_
    refine ab_goto (tgt := 2) d_M_copyTo_17 (by decide) ?_
    exact h
theorem r_M_copyTo_7_0 {w : ab_Wd} {d n nc ns : Nat} {I : Nat → Nat → Int32} {L : Nat → Nat → Int64} {res : ab_Re} (hT : w.1.stackTraces = false)  (hc : nc ≤ res.2.2.2.2.2.1) (hs : ns ≤ res.2.2.2.2.2.2)
    (h : ab_E w d mt_M_copyTo 2 [.ref mx_notedInThen, .ref mx_notedIn, .int 0] [] (I, L, ab_RR, n, nc, ns) res) : ab_E w d mt_M_copyTo 0 [.ref mx_notedInThen, .ref mx_notedIn, .null] [] (I, L, ab_RR, n, nc, ns) res := by
  refine ab_iconst (v := 0) d_M_copyTo_0 rfl ?_
  refine ab_istore_n (i := 2) d_M_copyTo_1 rfl (by decide) (Or.inr rfl) ?_
  exact h
theorem r_M_copyTo_7_2 {w : ab_Wd} {d n nc ns : Nat} {I : Nat → Nat → Int32} {L : Nat → Nat → Int64} {res : ab_Re} (hT : w.1.stackTraces = false) (v2 : Int32) (hc : nc ≤ res.2.2.2.2.2.1) (hs : ns ≤ res.2.2.2.2.2.2)
    (h : ((8 ≤ v2 → (res = (.inl none, (I, L, ab_RR, n, nc, ns)))) ∧ (¬ 8 ≤ v2 → ((vp_in v2 8) ∧ ab_E w d mt_M_copyTo 2 [.ref mx_notedInThen, .ref mx_notedIn, .int (v2 + 1)] [] ((ab_up I mx_notedInThen v2.toNatClampNeg (I mx_notedIn v2.toNatClampNeg)), L, ab_RR, n, nc, ns) res)))) : ab_E w d mt_M_copyTo 2 [.ref mx_notedInThen, .ref mx_notedIn, .int v2] [] (I, L, ab_RR, n, nc, ns) res := by
  refine ab_iload_n (i := 2) d_M_copyTo_2 rfl rfl ?_
  refine ab_aload_n (i := 0) d_M_copyTo_3 rfl rfl ?_
  refine ab_alen (v := 8) d_M_copyTo_4 (by decide) (by decide) rfl ?_
  refine ab_icmp_ge (tgt := 20) d_M_copyTo_5 (by decide) (fun c1 => ?_) (fun c1 => ?_)
  · have h := h.1 c1
    exact ab_vret d_M_copyTo_20 rfl h
  · have h := h.2 c1
    refine ab_aload_n (i := 0) d_M_copyTo_8 rfl rfl ?_
    refine ab_iload_n (i := 2) d_M_copyTo_9 rfl rfl ?_
    refine ab_aload_n (i := 1) d_M_copyTo_10 rfl rfl ?_
    refine ab_iload_n (i := 2) d_M_copyTo_11 rfl rfl ?_
    have g2 := h.1; have h := h.2
    refine ab_iald d_M_copyTo_12 rfl rfl g2 ?_
    refine ab_iast d_M_copyTo_13 rfl rfl g2 ?_
    refine ab_iinc (i := 2) (v := (v2 + 1)) d_M_copyTo_14 rfl rfl (by decide) (Or.inr rfl) ?_
    refine ab_goto (tgt := 2) d_M_copyTo_17 (by decide) ?_
    exact h
theorem r_M_copyTo_8_0 {w : ab_Wd} {d n nc ns : Nat} {I : Nat → Nat → Int32} {L : Nat → Nat → Int64} {res : ab_Re} (hT : w.1.stackTraces = false)  (hc : nc ≤ res.2.2.2.2.2.1) (hs : ns ≤ res.2.2.2.2.2.2)
    (h : ab_E w d mt_M_copyTo 2 [.ref mx_statusThen, .ref mx_status, .int 0] [] (I, L, ab_RR, n, nc, ns) res) : ab_E w d mt_M_copyTo 0 [.ref mx_statusThen, .ref mx_status, .null] [] (I, L, ab_RR, n, nc, ns) res := by
  refine ab_iconst (v := 0) d_M_copyTo_0 rfl ?_
  refine ab_istore_n (i := 2) d_M_copyTo_1 rfl (by decide) (Or.inr rfl) ?_
  exact h
theorem r_M_copyTo_8_2 {w : ab_Wd} {d n nc ns : Nat} {I : Nat → Nat → Int32} {L : Nat → Nat → Int64} {res : ab_Re} (hT : w.1.stackTraces = false) (v2 : Int32) (hc : nc ≤ res.2.2.2.2.2.1) (hs : ns ≤ res.2.2.2.2.2.2)
    (h : ((3 ≤ v2 → (res = (.inl none, (I, L, ab_RR, n, nc, ns)))) ∧ (¬ 3 ≤ v2 → ((vp_in v2 3) ∧ ab_E w d mt_M_copyTo 2 [.ref mx_statusThen, .ref mx_status, .int (v2 + 1)] [] ((ab_up I mx_statusThen v2.toNatClampNeg (I mx_status v2.toNatClampNeg)), L, ab_RR, n, nc, ns) res)))) : ab_E w d mt_M_copyTo 2 [.ref mx_statusThen, .ref mx_status, .int v2] [] (I, L, ab_RR, n, nc, ns) res := by
  refine ab_iload_n (i := 2) d_M_copyTo_2 rfl rfl ?_
  refine ab_aload_n (i := 0) d_M_copyTo_3 rfl rfl ?_
  refine ab_alen (v := 3) d_M_copyTo_4 (by decide) (by decide) rfl ?_
  refine ab_icmp_ge (tgt := 20) d_M_copyTo_5 (by decide) (fun c1 => ?_) (fun c1 => ?_)
  · have h := h.1 c1
    exact ab_vret d_M_copyTo_20 rfl h
  · have h := h.2 c1
    refine ab_aload_n (i := 0) d_M_copyTo_8 rfl rfl ?_
    refine ab_iload_n (i := 2) d_M_copyTo_9 rfl rfl ?_
    refine ab_aload_n (i := 1) d_M_copyTo_10 rfl rfl ?_
    refine ab_iload_n (i := 2) d_M_copyTo_11 rfl rfl ?_
    have g2 := h.1; have h := h.2
    refine ab_iald d_M_copyTo_12 rfl rfl g2 ?_
    refine ab_iast d_M_copyTo_13 rfl rfl g2 ?_
    refine ab_iinc (i := 2) (v := (v2 + 1)) d_M_copyTo_14 rfl rfl (by decide) (Or.inr rfl) ?_
    refine ab_goto (tgt := 2) d_M_copyTo_17 (by decide) ?_
    exact h
theorem r_M_copyTo_9_0 {w : ab_Wd} {d n nc ns : Nat} {I : Nat → Nat → Int32} {L : Nat → Nat → Int64} {res : ab_Re} (hT : w.1.stackTraces = false)  (hc : nc ≤ res.2.2.2.2.2.1) (hs : ns ≤ res.2.2.2.2.2.2)
    (h : ab_E w d mt_M_copyTo 2 [.ref mx_now, .ref mx_imageRow, .int 0] [] (I, L, ab_RR, n, nc, ns) res) : ab_E w d mt_M_copyTo 0 [.ref mx_now, .ref mx_imageRow, .null] [] (I, L, ab_RR, n, nc, ns) res := by
  refine ab_iconst (v := 0) d_M_copyTo_0 rfl ?_
  refine ab_istore_n (i := 2) d_M_copyTo_1 rfl (by decide) (Or.inr rfl) ?_
  exact h
theorem r_M_copyTo_9_2 {w : ab_Wd} {d n nc ns : Nat} {I : Nat → Nat → Int32} {L : Nat → Nat → Int64} {res : ab_Re} (hT : w.1.stackTraces = false) (v2 : Int32) (hc : nc ≤ res.2.2.2.2.2.1) (hs : ns ≤ res.2.2.2.2.2.2)
    (h : ((399 ≤ v2 → (res = (.inl none, (I, L, ab_RR, n, nc, ns)))) ∧ (¬ 399 ≤ v2 → ((vp_in v2 399) ∧ ab_E w d mt_M_copyTo 2 [.ref mx_now, .ref mx_imageRow, .int (v2 + 1)] [] ((ab_up I mx_now v2.toNatClampNeg (I mx_imageRow v2.toNatClampNeg)), L, ab_RR, n, nc, ns) res)))) : ab_E w d mt_M_copyTo 2 [.ref mx_now, .ref mx_imageRow, .int v2] [] (I, L, ab_RR, n, nc, ns) res := by
  refine ab_iload_n (i := 2) d_M_copyTo_2 rfl rfl ?_
  refine ab_aload_n (i := 0) d_M_copyTo_3 rfl rfl ?_
  refine ab_alen (v := 399) d_M_copyTo_4 (by decide) (by decide) rfl ?_
  refine ab_icmp_ge (tgt := 20) d_M_copyTo_5 (by decide) (fun c1 => ?_) (fun c1 => ?_)
  · have h := h.1 c1
    exact ab_vret d_M_copyTo_20 rfl h
  · have h := h.2 c1
    refine ab_aload_n (i := 0) d_M_copyTo_8 rfl rfl ?_
    refine ab_iload_n (i := 2) d_M_copyTo_9 rfl rfl ?_
    refine ab_aload_n (i := 1) d_M_copyTo_10 rfl rfl ?_
    refine ab_iload_n (i := 2) d_M_copyTo_11 rfl rfl ?_
    have g2 := h.1; have h := h.2
    refine ab_iald d_M_copyTo_12 rfl rfl g2 ?_
    refine ab_iast d_M_copyTo_13 rfl rfl g2 ?_
    refine ab_iinc (i := 2) (v := (v2 + 1)) d_M_copyTo_14 rfl rfl (by decide) (Or.inr rfl) ?_
    refine ab_goto (tgt := 2) d_M_copyTo_17 (by decide) ?_
    exact h
theorem r_M_copyTo_10_0 {w : ab_Wd} {d n nc ns : Nat} {I : Nat → Nat → Int32} {L : Nat → Nat → Int64} {res : ab_Re} (hT : w.1.stackTraces = false)  (hc : nc ≤ res.2.2.2.2.2.1) (hs : ns ≤ res.2.2.2.2.2.2)
    (h : ab_E w d mt_M_copyTo 2 [.ref mx_status, .ref mx_statusThen, .int 0] [] (I, L, ab_RR, n, nc, ns) res) : ab_E w d mt_M_copyTo 0 [.ref mx_status, .ref mx_statusThen, .null] [] (I, L, ab_RR, n, nc, ns) res := by
  refine ab_iconst (v := 0) d_M_copyTo_0 rfl ?_
  refine ab_istore_n (i := 2) d_M_copyTo_1 rfl (by decide) (Or.inr rfl) ?_
  exact h
theorem r_M_copyTo_10_2 {w : ab_Wd} {d n nc ns : Nat} {I : Nat → Nat → Int32} {L : Nat → Nat → Int64} {res : ab_Re} (hT : w.1.stackTraces = false) (v2 : Int32) (hc : nc ≤ res.2.2.2.2.2.1) (hs : ns ≤ res.2.2.2.2.2.2)
    (h : ((3 ≤ v2 → (res = (.inl none, (I, L, ab_RR, n, nc, ns)))) ∧ (¬ 3 ≤ v2 → ((vp_in v2 3) ∧ ab_E w d mt_M_copyTo 2 [.ref mx_status, .ref mx_statusThen, .int (v2 + 1)] [] ((ab_up I mx_status v2.toNatClampNeg (I mx_statusThen v2.toNatClampNeg)), L, ab_RR, n, nc, ns) res)))) : ab_E w d mt_M_copyTo 2 [.ref mx_status, .ref mx_statusThen, .int v2] [] (I, L, ab_RR, n, nc, ns) res := by
  refine ab_iload_n (i := 2) d_M_copyTo_2 rfl rfl ?_
  refine ab_aload_n (i := 0) d_M_copyTo_3 rfl rfl ?_
  refine ab_alen (v := 3) d_M_copyTo_4 (by decide) (by decide) rfl ?_
  refine ab_icmp_ge (tgt := 20) d_M_copyTo_5 (by decide) (fun c1 => ?_) (fun c1 => ?_)
  · have h := h.1 c1
    exact ab_vret d_M_copyTo_20 rfl h
  · have h := h.2 c1
    refine ab_aload_n (i := 0) d_M_copyTo_8 rfl rfl ?_
    refine ab_iload_n (i := 2) d_M_copyTo_9 rfl rfl ?_
    refine ab_aload_n (i := 1) d_M_copyTo_10 rfl rfl ?_
    refine ab_iload_n (i := 2) d_M_copyTo_11 rfl rfl ?_
    have g2 := h.1; have h := h.2
    refine ab_iald d_M_copyTo_12 rfl rfl g2 ?_
    refine ab_iast d_M_copyTo_13 rfl rfl g2 ?_
    refine ab_iinc (i := 2) (v := (v2 + 1)) d_M_copyTo_14 rfl rfl (by decide) (Or.inr rfl) ?_
    refine ab_goto (tgt := 2) d_M_copyTo_17 (by decide) ?_
    exact h
theorem r_M_copyTo_11_0 {w : ab_Wd} {d n nc ns : Nat} {I : Nat → Nat → Int32} {L : Nat → Nat → Int64} {res : ab_Re} (hT : w.1.stackTraces = false)  (hc : nc ≤ res.2.2.2.2.2.1) (hs : ns ≤ res.2.2.2.2.2.2)
    (h : ab_E w d mt_M_copyTo 2 [.ref mx_past, .ref mx_pastThen, .int 0] [] (I, L, ab_RR, n, nc, ns) res) : ab_E w d mt_M_copyTo 0 [.ref mx_past, .ref mx_pastThen, .null] [] (I, L, ab_RR, n, nc, ns) res := by
  refine ab_iconst (v := 0) d_M_copyTo_0 rfl ?_
  refine ab_istore_n (i := 2) d_M_copyTo_1 rfl (by decide) (Or.inr rfl) ?_
  exact h
theorem r_M_copyTo_11_2 {w : ab_Wd} {d n nc ns : Nat} {I : Nat → Nat → Int32} {L : Nat → Nat → Int64} {res : ab_Re} (hT : w.1.stackTraces = false) (v2 : Int32) (hc : nc ≤ res.2.2.2.2.2.1) (hs : ns ≤ res.2.2.2.2.2.2)
    (h : ((15960 ≤ v2 → (res = (.inl none, (I, L, ab_RR, n, nc, ns)))) ∧ (¬ 15960 ≤ v2 → ((vp_in v2 15960) ∧ ab_E w d mt_M_copyTo 2 [.ref mx_past, .ref mx_pastThen, .int (v2 + 1)] [] ((ab_up I mx_past v2.toNatClampNeg (I mx_pastThen v2.toNatClampNeg)), L, ab_RR, n, nc, ns) res)))) : ab_E w d mt_M_copyTo 2 [.ref mx_past, .ref mx_pastThen, .int v2] [] (I, L, ab_RR, n, nc, ns) res := by
  refine ab_iload_n (i := 2) d_M_copyTo_2 rfl rfl ?_
  refine ab_aload_n (i := 0) d_M_copyTo_3 rfl rfl ?_
  refine ab_alen (v := 15960) d_M_copyTo_4 (by decide) (by decide) rfl ?_
  refine ab_icmp_ge (tgt := 20) d_M_copyTo_5 (by decide) (fun c1 => ?_) (fun c1 => ?_)
  · have h := h.1 c1
    exact ab_vret d_M_copyTo_20 rfl h
  · have h := h.2 c1
    refine ab_aload_n (i := 0) d_M_copyTo_8 rfl rfl ?_
    refine ab_iload_n (i := 2) d_M_copyTo_9 rfl rfl ?_
    refine ab_aload_n (i := 1) d_M_copyTo_10 rfl rfl ?_
    refine ab_iload_n (i := 2) d_M_copyTo_11 rfl rfl ?_
    have g2 := h.1; have h := h.2
    refine ab_iald d_M_copyTo_12 rfl rfl g2 ?_
    refine ab_iast d_M_copyTo_13 rfl rfl g2 ?_
    refine ab_iinc (i := 2) (v := (v2 + 1)) d_M_copyTo_14 rfl rfl (by decide) (Or.inr rfl) ?_
    refine ab_goto (tgt := 2) d_M_copyTo_17 (by decide) ?_
    exact h
theorem r_M_copyTo_12_0 {w : ab_Wd} {d n nc ns : Nat} {I : Nat → Nat → Int32} {L : Nat → Nat → Int64} {res : ab_Re} (hT : w.1.stackTraces = false)  (hc : nc ≤ res.2.2.2.2.2.1) (hs : ns ≤ res.2.2.2.2.2.2)
    (h : ab_E w d mt_M_copyTo 2 [.ref mx_notedCable, .ref mx_notedCableThen, .int 0] [] (I, L, ab_RR, n, nc, ns) res) : ab_E w d mt_M_copyTo 0 [.ref mx_notedCable, .ref mx_notedCableThen, .null] [] (I, L, ab_RR, n, nc, ns) res := by
  refine ab_iconst (v := 0) d_M_copyTo_0 rfl ?_
  refine ab_istore_n (i := 2) d_M_copyTo_1 rfl (by decide) (Or.inr rfl) ?_
  exact h
theorem r_M_copyTo_12_2 {w : ab_Wd} {d n nc ns : Nat} {I : Nat → Nat → Int32} {L : Nat → Nat → Int64} {res : ab_Re} (hT : w.1.stackTraces = false) (v2 : Int32) (hc : nc ≤ res.2.2.2.2.2.1) (hs : ns ≤ res.2.2.2.2.2.2)
    (h : ((8 ≤ v2 → (res = (.inl none, (I, L, ab_RR, n, nc, ns)))) ∧ (¬ 8 ≤ v2 → ((vp_in v2 8) ∧ ab_E w d mt_M_copyTo 2 [.ref mx_notedCable, .ref mx_notedCableThen, .int (v2 + 1)] [] ((ab_up I mx_notedCable v2.toNatClampNeg (I mx_notedCableThen v2.toNatClampNeg)), L, ab_RR, n, nc, ns) res)))) : ab_E w d mt_M_copyTo 2 [.ref mx_notedCable, .ref mx_notedCableThen, .int v2] [] (I, L, ab_RR, n, nc, ns) res := by
  refine ab_iload_n (i := 2) d_M_copyTo_2 rfl rfl ?_
  refine ab_aload_n (i := 0) d_M_copyTo_3 rfl rfl ?_
  refine ab_alen (v := 8) d_M_copyTo_4 (by decide) (by decide) rfl ?_
  refine ab_icmp_ge (tgt := 20) d_M_copyTo_5 (by decide) (fun c1 => ?_) (fun c1 => ?_)
  · have h := h.1 c1
    exact ab_vret d_M_copyTo_20 rfl h
  · have h := h.2 c1
    refine ab_aload_n (i := 0) d_M_copyTo_8 rfl rfl ?_
    refine ab_iload_n (i := 2) d_M_copyTo_9 rfl rfl ?_
    refine ab_aload_n (i := 1) d_M_copyTo_10 rfl rfl ?_
    refine ab_iload_n (i := 2) d_M_copyTo_11 rfl rfl ?_
    have g2 := h.1; have h := h.2
    refine ab_iald d_M_copyTo_12 rfl rfl g2 ?_
    refine ab_iast d_M_copyTo_13 rfl rfl g2 ?_
    refine ab_iinc (i := 2) (v := (v2 + 1)) d_M_copyTo_14 rfl rfl (by decide) (Or.inr rfl) ?_
    refine ab_goto (tgt := 2) d_M_copyTo_17 (by decide) ?_
    exact h
theorem r_M_copyTo_13_0 {w : ab_Wd} {d n nc ns : Nat} {I : Nat → Nat → Int32} {L : Nat → Nat → Int64} {res : ab_Re} (hT : w.1.stackTraces = false)  (hc : nc ≤ res.2.2.2.2.2.1) (hs : ns ≤ res.2.2.2.2.2.2)
    (h : ab_E w d mt_M_copyTo 2 [.ref mx_notedIn, .ref mx_notedInThen, .int 0] [] (I, L, ab_RR, n, nc, ns) res) : ab_E w d mt_M_copyTo 0 [.ref mx_notedIn, .ref mx_notedInThen, .null] [] (I, L, ab_RR, n, nc, ns) res := by
  refine ab_iconst (v := 0) d_M_copyTo_0 rfl ?_
  refine ab_istore_n (i := 2) d_M_copyTo_1 rfl (by decide) (Or.inr rfl) ?_
  exact h
theorem r_M_copyTo_13_2 {w : ab_Wd} {d n nc ns : Nat} {I : Nat → Nat → Int32} {L : Nat → Nat → Int64} {res : ab_Re} (hT : w.1.stackTraces = false) (v2 : Int32) (hc : nc ≤ res.2.2.2.2.2.1) (hs : ns ≤ res.2.2.2.2.2.2)
    (h : ((8 ≤ v2 → (res = (.inl none, (I, L, ab_RR, n, nc, ns)))) ∧ (¬ 8 ≤ v2 → ((vp_in v2 8) ∧ ab_E w d mt_M_copyTo 2 [.ref mx_notedIn, .ref mx_notedInThen, .int (v2 + 1)] [] ((ab_up I mx_notedIn v2.toNatClampNeg (I mx_notedInThen v2.toNatClampNeg)), L, ab_RR, n, nc, ns) res)))) : ab_E w d mt_M_copyTo 2 [.ref mx_notedIn, .ref mx_notedInThen, .int v2] [] (I, L, ab_RR, n, nc, ns) res := by
  refine ab_iload_n (i := 2) d_M_copyTo_2 rfl rfl ?_
  refine ab_aload_n (i := 0) d_M_copyTo_3 rfl rfl ?_
  refine ab_alen (v := 8) d_M_copyTo_4 (by decide) (by decide) rfl ?_
  refine ab_icmp_ge (tgt := 20) d_M_copyTo_5 (by decide) (fun c1 => ?_) (fun c1 => ?_)
  · have h := h.1 c1
    exact ab_vret d_M_copyTo_20 rfl h
  · have h := h.2 c1
    refine ab_aload_n (i := 0) d_M_copyTo_8 rfl rfl ?_
    refine ab_iload_n (i := 2) d_M_copyTo_9 rfl rfl ?_
    refine ab_aload_n (i := 1) d_M_copyTo_10 rfl rfl ?_
    refine ab_iload_n (i := 2) d_M_copyTo_11 rfl rfl ?_
    have g2 := h.1; have h := h.2
    refine ab_iald d_M_copyTo_12 rfl rfl g2 ?_
    refine ab_iast d_M_copyTo_13 rfl rfl g2 ?_
    refine ab_iinc (i := 2) (v := (v2 + 1)) d_M_copyTo_14 rfl rfl (by decide) (Or.inr rfl) ?_
    refine ab_goto (tgt := 2) d_M_copyTo_17 (by decide) ?_
    exact h
theorem cx_Reader_fail_0 {w : ab_Wd} {d n nc ns : Nat} {I : Nat → Nat → Int32} {L : Nat → Nat → Int64} (v1 : Int32) (hT : w.1.stackTraces = false) (e1 : ¬ (I kx_reader 7) = 0) : ab_C w d mt_Reader_fail [.ref kx_reader, .int v1] (I, L, ab_RR, n, nc, ns) (.inl none, (I, L, ab_RR, n, nc, ns)) := by
  refine ab_C_of (by decide) rfl (Nat.le_of_ble_eq_true rfl) hT ?_
  have hc := Nat.le_refl nc
  have hs := Nat.le_refl ns
  refine ab_aload_n (i := 0) d_Reader_fail_0 rfl rfl ?_
  refine ab_getI (ci := 4) (k := 7) d_Reader_fail_1 v_774 rfl (by decide) (by decide) rfl ?_
  refine ab_if_ne (tgt := 20) d_Reader_fail_4 (by decide) (fun _ => ?_) (fun c9 => absurd c9 e1)
  exact ab_vret d_Reader_fail_20 rfl rfl
theorem cx_Reader_fail_1 {w : ab_Wd} {d n nc ns : Nat} {I : Nat → Nat → Int32} {L : Nat → Nat → Int64} (v1 : Int32) (hT : w.1.stackTraces = false) (e1 : (I kx_reader 7) = 0) : ab_C w d mt_Reader_fail [.ref kx_reader, .int v1] (I, L, ab_RR, n, nc, ns) (.inl none, ((ab_up (ab_up I kx_reader 7 v1) kx_reader 8 (I kx_reader 5)), L, ab_RR, n, nc, ns)) := by
  refine ab_C_of (by decide) rfl (Nat.le_of_ble_eq_true rfl) hT ?_
  have hc := Nat.le_refl nc
  have hs := Nat.le_refl ns
  refine ab_aload_n (i := 0) d_Reader_fail_0 rfl rfl ?_
  refine ab_getI (ci := 4) (k := 7) d_Reader_fail_1 v_774 rfl (by decide) (by decide) rfl ?_
  refine ab_if_ne (tgt := 20) d_Reader_fail_4 (by decide) (fun c9 => absurd e1 c9) (fun _ => ?_)
  refine ab_aload_n (i := 0) d_Reader_fail_7 rfl rfl ?_
  refine ab_iload_n (i := 1) d_Reader_fail_8 rfl rfl ?_
  refine ab_putI (ci := 4) (k := 7) d_Reader_fail_9 v_774 rfl (by decide) (by decide) rfl (Or.inl rfl) rfl rfl ?_
  refine ab_aload_n (i := 0) d_Reader_fail_12 rfl rfl ?_
  refine ab_aload_n (i := 0) d_Reader_fail_13 rfl rfl ?_
  refine ab_getI (ci := 4) (k := 5) d_Reader_fail_14 v_772 rfl (by decide) (by decide) rfl ?_
  refine ab_putI (ci := 4) (k := 8) d_Reader_fail_17 v_775 rfl (by decide) (by decide) rfl (Or.inl rfl) rfl rfl ?_
  exact ab_vret d_Reader_fail_20 rfl rfl
theorem r_Reader_readClause_0 {w : ab_Wd} {d n nc ns : Nat} {I : Nat → Nat → Int32} {L : Nat → Nat → Int64} {res : ab_Re} (hT : w.1.stackTraces = false) (v1 : Int32) (hc : nc ≤ res.2.2.2.2.2.1) (hs : ns ≤ res.2.2.2.2.2.2)
    (h : ∃ (r1 : Int32), ab_C w d mt_Reader_isWord [.ref kx_reader, .ref 32] (I, L, ab_RR, n, nc, ns) (.inl (some (.int r1)), (I, L, ab_RR, n, nc, ns)) ∧ ((r1 = 0 → (∃ (r3 : Int32), ab_C w d mt_Reader_isWord [.ref kx_reader, .ref 96] (I, L, ab_RR, n, nc, ns) (.inl (some (.int r3)), (I, L, ab_RR, n, nc, ns)) ∧ ((r3 = 0 → (∃ (r5 : Int32), ab_C w d mt_Reader_isWord [.ref kx_reader, .ref 160] (I, L, ab_RR, n, nc, ns) (.inl (some (.int r5)), (I, L, ab_RR, n, nc, ns)) ∧ ((r5 = 0 → (((I kx_reader 7) = 0 → (((I kx_reader 4) = 3 → (∃ (I12 : Nat → Nat → Int32), ab_C w d mt_Reader_toNext [.ref kx_reader] ((ab_up (ab_up I kx_reader 7 1) kx_reader 8 (I kx_reader 5)), L, ab_RR, n, nc, ns) (.inl none, (I12, L, ab_RR, n, nc, ns)) ∧ res = (.inl none, (I12, L, ab_RR, n, nc, ns)))) ∧ (¬ (I kx_reader 4) = 3 → (∃ (I16 : Nat → Nat → Int32), ab_C w d mt_Reader_toNext [.ref kx_reader] ((ab_up (ab_up I kx_reader 7 1) kx_reader 8 (I kx_reader 5)), L, ab_RR, n, nc, ns) (.inl none, (I16, L, ab_RR, n, nc, ns)) ∧ res = (.inl none, (I16, L, ab_RR, n, nc, ns)))))) ∧ (¬ (I kx_reader 7) = 0 → (((I kx_reader 4) = 3 → (∃ (I19 : Nat → Nat → Int32), ab_C w d mt_Reader_toNext [.ref kx_reader] (I, L, ab_RR, n, nc, ns) (.inl none, (I19, L, ab_RR, n, nc, ns)) ∧ res = (.inl none, (I19, L, ab_RR, n, nc, ns)))) ∧ (¬ (I kx_reader 4) = 3 → (∃ (I23 : Nat → Nat → Int32), ab_C w d mt_Reader_toNext [.ref kx_reader] (I, L, ab_RR, n, nc, ns) (.inl none, (I23, L, ab_RR, n, nc, ns)) ∧ res = (.inl none, (I23, L, ab_RR, n, nc, ns)))))))) ∧ (¬ r5 = 0 → (∃ (I25 : Nat → Nat → Int32), ab_C w d mt_Reader_readBroken [.ref kx_reader] (I, L, ab_RR, n, nc, ns) (.inl none, (I25, L, ab_RR, n, nc, ns)) ∧ (((I25 kx_reader 4) = 3 → (∃ (I28 : Nat → Nat → Int32), ab_C w d mt_Reader_toNext [.ref kx_reader] (I25, L, ab_RR, n, nc, ns) (.inl none, (I28, L, ab_RR, n, nc, ns)) ∧ res = (.inl none, (I28, L, ab_RR, n, nc, ns)))) ∧ (¬ (I25 kx_reader 4) = 3 → (((I25 kx_reader 7) = 0 → (∃ (I33 : Nat → Nat → Int32), ab_C w d mt_Reader_toNext [.ref kx_reader] ((ab_up (ab_up I25 kx_reader 7 1) kx_reader 8 (I25 kx_reader 5)), L, ab_RR, n, nc, ns) (.inl none, (I33, L, ab_RR, n, nc, ns)) ∧ res = (.inl none, (I33, L, ab_RR, n, nc, ns)))) ∧ (¬ (I25 kx_reader 7) = 0 → (∃ (I35 : Nat → Nat → Int32), ab_C w d mt_Reader_toNext [.ref kx_reader] (I25, L, ab_RR, n, nc, ns) (.inl none, (I35, L, ab_RR, n, nc, ns)) ∧ res = (.inl none, (I35, L, ab_RR, n, nc, ns)))))))))))) ∧ (¬ r3 = 0 → (∃ (I37 : Nat → Nat → Int32), ab_C w d mt_Reader_readCable [.ref kx_reader] (I, L, ab_RR, n, nc, ns) (.inl none, (I37, L, ab_RR, n, nc, ns)) ∧ (((I37 kx_reader 4) = 3 → (∃ (I40 : Nat → Nat → Int32), ab_C w d mt_Reader_toNext [.ref kx_reader] (I37, L, ab_RR, n, nc, ns) (.inl none, (I40, L, ab_RR, n, nc, ns)) ∧ res = (.inl none, (I40, L, ab_RR, n, nc, ns)))) ∧ (¬ (I37 kx_reader 4) = 3 → (((I37 kx_reader 7) = 0 → (∃ (I45 : Nat → Nat → Int32), ab_C w d mt_Reader_toNext [.ref kx_reader] ((ab_up (ab_up I37 kx_reader 7 1) kx_reader 8 (I37 kx_reader 5)), L, ab_RR, n, nc, ns) (.inl none, (I45, L, ab_RR, n, nc, ns)) ∧ res = (.inl none, (I45, L, ab_RR, n, nc, ns)))) ∧ (¬ (I37 kx_reader 7) = 0 → (∃ (I47 : Nat → Nat → Int32), ab_C w d mt_Reader_toNext [.ref kx_reader] (I37, L, ab_RR, n, nc, ns) (.inl none, (I47, L, ab_RR, n, nc, ns)) ∧ res = (.inl none, (I47, L, ab_RR, n, nc, ns)))))))))))) ∧ (¬ r1 = 0 → (∃ (I49 : Nat → Nat → Int32), ab_C w d mt_Reader_readSites [.ref kx_reader, .int v1] (I, L, ab_RR, n, nc, ns) (.inl none, (I49, L, ab_RR, n, nc, ns)) ∧ (((I49 kx_reader 4) = 3 → (∃ (I52 : Nat → Nat → Int32), ab_C w d mt_Reader_toNext [.ref kx_reader] (I49, L, ab_RR, n, nc, ns) (.inl none, (I52, L, ab_RR, n, nc, ns)) ∧ res = (.inl none, (I52, L, ab_RR, n, nc, ns)))) ∧ (¬ (I49 kx_reader 4) = 3 → (((I49 kx_reader 7) = 0 → (∃ (I57 : Nat → Nat → Int32), ab_C w d mt_Reader_toNext [.ref kx_reader] ((ab_up (ab_up I49 kx_reader 7 1) kx_reader 8 (I49 kx_reader 5)), L, ab_RR, n, nc, ns) (.inl none, (I57, L, ab_RR, n, nc, ns)) ∧ res = (.inl none, (I57, L, ab_RR, n, nc, ns)))) ∧ (¬ (I49 kx_reader 7) = 0 → (∃ (I59 : Nat → Nat → Int32), ab_C w d mt_Reader_toNext [.ref kx_reader] (I49, L, ab_RR, n, nc, ns) (.inl none, (I59, L, ab_RR, n, nc, ns)) ∧ res = (.inl none, (I59, L, ab_RR, n, nc, ns))))))))))) : ab_E w (d + 1) mt_Reader_readClause 0 [.ref kx_reader, .int v1] [] (I, L, ab_RR, n, nc, ns) res := by
  refine ab_aload_n (i := 0) d_Reader_readClause_0 rfl rfl ?_
  refine ab_ldcS (j := 0) (tx := "sites") d_Reader_readClause_1 (by decide) (by decide +kernel) ?_
  obtain ⟨r1, hC, h⟩ := h
  refine ab_callV (me2 := mt_Reader_isWord) (b := kx_reader) (as := [.ref 32]) (st := []) (rv := (some (.int r1))) (M2 := (I, L, ab_RR, n, nc, ns)) d_Reader_readClause_3 ce_Reader_isWord v_829 v_831 v_20 (by decide) rfl (Nat.le_of_ble_eq_true rfl) hC (Nat.le_refl _) (Nat.le_refl _) hc hs (fun j h9 => by cases h9) (fun _ _ => rfl) ?_
  show ab_E w (d + 1) mt_Reader_readClause 6 [.ref kx_reader, .int v1] [.int r1] (I, L, ab_RR, n, nc, ns) res
  refine ab_if_eq (tgt := 17) d_Reader_readClause_6 (by decide) (fun c2 => ?_) (fun c2 => ?_)
  · have h := h.1 c2
    refine ab_aload_n (i := 0) d_Reader_readClause_17 rfl rfl ?_
    refine ab_ldcS (j := 1) (tx := "cable") d_Reader_readClause_18 (by decide) (by decide +kernel) ?_
    obtain ⟨r3, hC, h⟩ := h
    refine ab_callV (me2 := mt_Reader_isWord) (b := kx_reader) (as := [.ref 96]) (st := []) (rv := (some (.int r3))) (M2 := (I, L, ab_RR, n, nc, ns)) d_Reader_readClause_20 ce_Reader_isWord v_829 v_831 v_20 (by decide) rfl (Nat.le_of_ble_eq_true rfl) hC (Nat.le_refl _) (Nat.le_refl _) hc hs (fun j h9 => by cases h9) (fun _ _ => rfl) ?_
    show ab_E w (d + 1) mt_Reader_readClause 23 [.ref kx_reader, .int v1] [.int r3] (I, L, ab_RR, n, nc, ns) res
    refine ab_if_eq (tgt := 33) d_Reader_readClause_23 (by decide) (fun c4 => ?_) (fun c4 => ?_)
    · have h := h.1 c4
      refine ab_aload_n (i := 0) d_Reader_readClause_33 rfl rfl ?_
      refine ab_ldcS (j := 2) (tx := "broken") d_Reader_readClause_34 (by decide) (by decide +kernel) ?_
      obtain ⟨r5, hC, h⟩ := h
      refine ab_callV (me2 := mt_Reader_isWord) (b := kx_reader) (as := [.ref 160]) (st := []) (rv := (some (.int r5))) (M2 := (I, L, ab_RR, n, nc, ns)) d_Reader_readClause_36 ce_Reader_isWord v_829 v_831 v_20 (by decide) rfl (Nat.le_of_ble_eq_true rfl) hC (Nat.le_refl _) (Nat.le_refl _) hc hs (fun j h9 => by cases h9) (fun _ _ => rfl) ?_
      show ab_E w (d + 1) mt_Reader_readClause 39 [.ref kx_reader, .int v1] [.int r5] (I, L, ab_RR, n, nc, ns) res
      refine ab_if_eq (tgt := 49) d_Reader_readClause_39 (by decide) (fun c6 => ?_) (fun c6 => ?_)
      · have h := h.1 c6
        refine ab_aload_n (i := 0) d_Reader_readClause_49 rfl rfl ?_
        refine ab_iconst (v := 1) d_Reader_readClause_50 rfl ?_
        by_cases c9 : (I kx_reader 7) = 0
        · have h := h.1 c9
          refine ab_callV (me2 := mt_Reader_fail) (b := kx_reader) (as := [.int 1]) (st := []) (rv := none) (M2 := ((ab_up (ab_up I kx_reader 7 1) kx_reader 8 (I kx_reader 5)), L, ab_RR, n, nc, ns)) d_Reader_readClause_51 ce_Reader_fail v_885 v_887 v_22 (by decide) rfl (Nat.le_of_ble_eq_true rfl) (cx_Reader_fail_1 1 hT c9) (Nat.le_refl _) (Nat.le_refl _) hc hs (fun j h9 => by cases h9) (fun _ _ => rfl) ?_
          show ab_E w (d + 1) mt_Reader_readClause 54 [.ref kx_reader, .int v1] [] ((ab_up (ab_up I kx_reader 7 1) kx_reader 8 (I kx_reader 5)), L, ab_RR, n, nc, ns) res
          refine ab_aload_n (i := 0) d_Reader_readClause_54 rfl rfl ?_
          refine ab_getI (ci := 4) (k := 4) d_Reader_readClause_55 v_771 rfl (by decide) (by decide) rfl ?_
          refine ab_iconst (v := 3) d_Reader_readClause_58 rfl ?_
          refine ab_icmp_eq (tgt := 67) d_Reader_readClause_59 (by decide) (fun c10 => ?_) (fun c10 => ?_)
          · have h := h.1 c10
            refine ab_aload_n (i := 0) d_Reader_readClause_67 rfl rfl ?_
            obtain ⟨I12, hC, h⟩ := h
            refine ab_callV (me2 := mt_Reader_toNext) (b := kx_reader) (as := []) (st := []) (rv := none) (M2 := (I12, L, ab_RR, n, nc, ns)) d_Reader_readClause_68 ce_Reader_toNext v_804 v_806 v_14 (by decide) rfl (Nat.le_of_ble_eq_true rfl) hC (Nat.le_refl _) (Nat.le_refl _) hc hs (fun j h9 => by cases h9) (fun _ _ => rfl) ?_
            show ab_E w (d + 1) mt_Reader_readClause 71 [.ref kx_reader, .int v1] [] (I12, L, ab_RR, n, nc, ns) res
            exact ab_vret d_Reader_readClause_71 rfl h
          · have h := h.2 c10
            refine ab_aload_n (i := 0) d_Reader_readClause_62 rfl rfl ?_
            refine ab_iconst (v := 1) d_Reader_readClause_63 rfl ?_
            refine ab_callV (me2 := mt_Reader_fail) (b := kx_reader) (as := [.int 1]) (st := []) (rv := none) (M2 := ((ab_up (ab_up I kx_reader 7 1) kx_reader 8 (I kx_reader 5)), L, ab_RR, n, nc, ns)) d_Reader_readClause_64 ce_Reader_fail v_885 v_887 v_22 (by decide) rfl (Nat.le_of_ble_eq_true rfl) (cx_Reader_fail_0 1 hT (show ¬ (1 : Int32) = 0 from by decide)) (Nat.le_refl _) (Nat.le_refl _) hc hs (fun j h9 => by cases h9) (fun _ _ => rfl) ?_
            show ab_E w (d + 1) mt_Reader_readClause 67 [.ref kx_reader, .int v1] [] ((ab_up (ab_up I kx_reader 7 1) kx_reader 8 (I kx_reader 5)), L, ab_RR, n, nc, ns) res
            refine ab_aload_n (i := 0) d_Reader_readClause_67 rfl rfl ?_
            obtain ⟨I16, hC, h⟩ := h
            refine ab_callV (me2 := mt_Reader_toNext) (b := kx_reader) (as := []) (st := []) (rv := none) (M2 := (I16, L, ab_RR, n, nc, ns)) d_Reader_readClause_68 ce_Reader_toNext v_804 v_806 v_14 (by decide) rfl (Nat.le_of_ble_eq_true rfl) hC (Nat.le_refl _) (Nat.le_refl _) hc hs (fun j h9 => by cases h9) (fun _ _ => rfl) ?_
            show ab_E w (d + 1) mt_Reader_readClause 71 [.ref kx_reader, .int v1] [] (I16, L, ab_RR, n, nc, ns) res
            exact ab_vret d_Reader_readClause_71 rfl h
        · have h := h.2 c9
          refine ab_callV (me2 := mt_Reader_fail) (b := kx_reader) (as := [.int 1]) (st := []) (rv := none) (M2 := (I, L, ab_RR, n, nc, ns)) d_Reader_readClause_51 ce_Reader_fail v_885 v_887 v_22 (by decide) rfl (Nat.le_of_ble_eq_true rfl) (cx_Reader_fail_0 1 hT c9) (Nat.le_refl _) (Nat.le_refl _) hc hs (fun j h9 => by cases h9) (fun _ _ => rfl) ?_
          show ab_E w (d + 1) mt_Reader_readClause 54 [.ref kx_reader, .int v1] [] (I, L, ab_RR, n, nc, ns) res
          refine ab_aload_n (i := 0) d_Reader_readClause_54 rfl rfl ?_
          refine ab_getI (ci := 4) (k := 4) d_Reader_readClause_55 v_771 rfl (by decide) (by decide) rfl ?_
          refine ab_iconst (v := 3) d_Reader_readClause_58 rfl ?_
          refine ab_icmp_eq (tgt := 67) d_Reader_readClause_59 (by decide) (fun c17 => ?_) (fun c17 => ?_)
          · have h := h.1 c17
            refine ab_aload_n (i := 0) d_Reader_readClause_67 rfl rfl ?_
            obtain ⟨I19, hC, h⟩ := h
            refine ab_callV (me2 := mt_Reader_toNext) (b := kx_reader) (as := []) (st := []) (rv := none) (M2 := (I19, L, ab_RR, n, nc, ns)) d_Reader_readClause_68 ce_Reader_toNext v_804 v_806 v_14 (by decide) rfl (Nat.le_of_ble_eq_true rfl) hC (Nat.le_refl _) (Nat.le_refl _) hc hs (fun j h9 => by cases h9) (fun _ _ => rfl) ?_
            show ab_E w (d + 1) mt_Reader_readClause 71 [.ref kx_reader, .int v1] [] (I19, L, ab_RR, n, nc, ns) res
            exact ab_vret d_Reader_readClause_71 rfl h
          · have h := h.2 c17
            refine ab_aload_n (i := 0) d_Reader_readClause_62 rfl rfl ?_
            refine ab_iconst (v := 1) d_Reader_readClause_63 rfl ?_
            refine ab_callV (me2 := mt_Reader_fail) (b := kx_reader) (as := [.int 1]) (st := []) (rv := none) (M2 := (I, L, ab_RR, n, nc, ns)) d_Reader_readClause_64 ce_Reader_fail v_885 v_887 v_22 (by decide) rfl (Nat.le_of_ble_eq_true rfl) (cx_Reader_fail_0 1 hT c9) (Nat.le_refl _) (Nat.le_refl _) hc hs (fun j h9 => by cases h9) (fun _ _ => rfl) ?_
            show ab_E w (d + 1) mt_Reader_readClause 67 [.ref kx_reader, .int v1] [] (I, L, ab_RR, n, nc, ns) res
            refine ab_aload_n (i := 0) d_Reader_readClause_67 rfl rfl ?_
            obtain ⟨I23, hC, h⟩ := h
            refine ab_callV (me2 := mt_Reader_toNext) (b := kx_reader) (as := []) (st := []) (rv := none) (M2 := (I23, L, ab_RR, n, nc, ns)) d_Reader_readClause_68 ce_Reader_toNext v_804 v_806 v_14 (by decide) rfl (Nat.le_of_ble_eq_true rfl) hC (Nat.le_refl _) (Nat.le_refl _) hc hs (fun j h9 => by cases h9) (fun _ _ => rfl) ?_
            show ab_E w (d + 1) mt_Reader_readClause 71 [.ref kx_reader, .int v1] [] (I23, L, ab_RR, n, nc, ns) res
            exact ab_vret d_Reader_readClause_71 rfl h
      · have h := h.2 c6
        refine ab_aload_n (i := 0) d_Reader_readClause_42 rfl rfl ?_
        obtain ⟨I25, hC, h⟩ := h
        refine ab_callV (me2 := mt_Reader_readBroken) (b := kx_reader) (as := []) (st := []) (rv := none) (M2 := (I25, L, ab_RR, n, nc, ns)) d_Reader_readClause_43 ce_Reader_readBroken v_904 v_906 v_26 (by decide) rfl (Nat.le_of_ble_eq_true rfl) hC (Nat.le_refl _) (Nat.le_refl _) hc hs (fun j h9 => by cases h9) (fun _ _ => rfl) ?_
        show ab_E w (d + 1) mt_Reader_readClause 46 [.ref kx_reader, .int v1] [] (I25, L, ab_RR, n, nc, ns) res
        refine ab_goto (tgt := 54) d_Reader_readClause_46 (by decide) ?_
        refine ab_aload_n (i := 0) d_Reader_readClause_54 rfl rfl ?_
        refine ab_getI (ci := 4) (k := 4) d_Reader_readClause_55 v_771 rfl (by decide) (by decide) rfl ?_
        refine ab_iconst (v := 3) d_Reader_readClause_58 rfl ?_
        refine ab_icmp_eq (tgt := 67) d_Reader_readClause_59 (by decide) (fun c26 => ?_) (fun c26 => ?_)
        · have h := h.1 c26
          refine ab_aload_n (i := 0) d_Reader_readClause_67 rfl rfl ?_
          obtain ⟨I28, hC, h⟩ := h
          refine ab_callV (me2 := mt_Reader_toNext) (b := kx_reader) (as := []) (st := []) (rv := none) (M2 := (I28, L, ab_RR, n, nc, ns)) d_Reader_readClause_68 ce_Reader_toNext v_804 v_806 v_14 (by decide) rfl (Nat.le_of_ble_eq_true rfl) hC (Nat.le_refl _) (Nat.le_refl _) hc hs (fun j h9 => by cases h9) (fun _ _ => rfl) ?_
          show ab_E w (d + 1) mt_Reader_readClause 71 [.ref kx_reader, .int v1] [] (I28, L, ab_RR, n, nc, ns) res
          exact ab_vret d_Reader_readClause_71 rfl h
        · have h := h.2 c26
          refine ab_aload_n (i := 0) d_Reader_readClause_62 rfl rfl ?_
          refine ab_iconst (v := 1) d_Reader_readClause_63 rfl ?_
          by_cases c31 : (I25 kx_reader 7) = 0
          · have h := h.1 c31
            refine ab_callV (me2 := mt_Reader_fail) (b := kx_reader) (as := [.int 1]) (st := []) (rv := none) (M2 := ((ab_up (ab_up I25 kx_reader 7 1) kx_reader 8 (I25 kx_reader 5)), L, ab_RR, n, nc, ns)) d_Reader_readClause_64 ce_Reader_fail v_885 v_887 v_22 (by decide) rfl (Nat.le_of_ble_eq_true rfl) (cx_Reader_fail_1 1 hT c31) (Nat.le_refl _) (Nat.le_refl _) hc hs (fun j h9 => by cases h9) (fun _ _ => rfl) ?_
            show ab_E w (d + 1) mt_Reader_readClause 67 [.ref kx_reader, .int v1] [] ((ab_up (ab_up I25 kx_reader 7 1) kx_reader 8 (I25 kx_reader 5)), L, ab_RR, n, nc, ns) res
            refine ab_aload_n (i := 0) d_Reader_readClause_67 rfl rfl ?_
            obtain ⟨I33, hC, h⟩ := h
            refine ab_callV (me2 := mt_Reader_toNext) (b := kx_reader) (as := []) (st := []) (rv := none) (M2 := (I33, L, ab_RR, n, nc, ns)) d_Reader_readClause_68 ce_Reader_toNext v_804 v_806 v_14 (by decide) rfl (Nat.le_of_ble_eq_true rfl) hC (Nat.le_refl _) (Nat.le_refl _) hc hs (fun j h9 => by cases h9) (fun _ _ => rfl) ?_
            show ab_E w (d + 1) mt_Reader_readClause 71 [.ref kx_reader, .int v1] [] (I33, L, ab_RR, n, nc, ns) res
            exact ab_vret d_Reader_readClause_71 rfl h
          · have h := h.2 c31
            refine ab_callV (me2 := mt_Reader_fail) (b := kx_reader) (as := [.int 1]) (st := []) (rv := none) (M2 := (I25, L, ab_RR, n, nc, ns)) d_Reader_readClause_64 ce_Reader_fail v_885 v_887 v_22 (by decide) rfl (Nat.le_of_ble_eq_true rfl) (cx_Reader_fail_0 1 hT c31) (Nat.le_refl _) (Nat.le_refl _) hc hs (fun j h9 => by cases h9) (fun _ _ => rfl) ?_
            show ab_E w (d + 1) mt_Reader_readClause 67 [.ref kx_reader, .int v1] [] (I25, L, ab_RR, n, nc, ns) res
            refine ab_aload_n (i := 0) d_Reader_readClause_67 rfl rfl ?_
            obtain ⟨I35, hC, h⟩ := h
            refine ab_callV (me2 := mt_Reader_toNext) (b := kx_reader) (as := []) (st := []) (rv := none) (M2 := (I35, L, ab_RR, n, nc, ns)) d_Reader_readClause_68 ce_Reader_toNext v_804 v_806 v_14 (by decide) rfl (Nat.le_of_ble_eq_true rfl) hC (Nat.le_refl _) (Nat.le_refl _) hc hs (fun j h9 => by cases h9) (fun _ _ => rfl) ?_
            show ab_E w (d + 1) mt_Reader_readClause 71 [.ref kx_reader, .int v1] [] (I35, L, ab_RR, n, nc, ns) res
            exact ab_vret d_Reader_readClause_71 rfl h
    · have h := h.2 c4
      refine ab_aload_n (i := 0) d_Reader_readClause_26 rfl rfl ?_
      obtain ⟨I37, hC, h⟩ := h
      refine ab_callV (me2 := mt_Reader_readCable) (b := kx_reader) (as := []) (st := []) (rv := none) (M2 := (I37, L, ab_RR, n, nc, ns)) d_Reader_readClause_27 ce_Reader_readCable v_894 v_896 v_24 (by decide) rfl (Nat.le_of_ble_eq_true rfl) hC (Nat.le_refl _) (Nat.le_refl _) hc hs (fun j h9 => by cases h9) (fun _ _ => rfl) ?_
      show ab_E w (d + 1) mt_Reader_readClause 30 [.ref kx_reader, .int v1] [] (I37, L, ab_RR, n, nc, ns) res
      refine ab_goto (tgt := 54) d_Reader_readClause_30 (by decide) ?_
      refine ab_aload_n (i := 0) d_Reader_readClause_54 rfl rfl ?_
      refine ab_getI (ci := 4) (k := 4) d_Reader_readClause_55 v_771 rfl (by decide) (by decide) rfl ?_
      refine ab_iconst (v := 3) d_Reader_readClause_58 rfl ?_
      refine ab_icmp_eq (tgt := 67) d_Reader_readClause_59 (by decide) (fun c38 => ?_) (fun c38 => ?_)
      · have h := h.1 c38
        refine ab_aload_n (i := 0) d_Reader_readClause_67 rfl rfl ?_
        obtain ⟨I40, hC, h⟩ := h
        refine ab_callV (me2 := mt_Reader_toNext) (b := kx_reader) (as := []) (st := []) (rv := none) (M2 := (I40, L, ab_RR, n, nc, ns)) d_Reader_readClause_68 ce_Reader_toNext v_804 v_806 v_14 (by decide) rfl (Nat.le_of_ble_eq_true rfl) hC (Nat.le_refl _) (Nat.le_refl _) hc hs (fun j h9 => by cases h9) (fun _ _ => rfl) ?_
        show ab_E w (d + 1) mt_Reader_readClause 71 [.ref kx_reader, .int v1] [] (I40, L, ab_RR, n, nc, ns) res
        exact ab_vret d_Reader_readClause_71 rfl h
      · have h := h.2 c38
        refine ab_aload_n (i := 0) d_Reader_readClause_62 rfl rfl ?_
        refine ab_iconst (v := 1) d_Reader_readClause_63 rfl ?_
        by_cases c43 : (I37 kx_reader 7) = 0
        · have h := h.1 c43
          refine ab_callV (me2 := mt_Reader_fail) (b := kx_reader) (as := [.int 1]) (st := []) (rv := none) (M2 := ((ab_up (ab_up I37 kx_reader 7 1) kx_reader 8 (I37 kx_reader 5)), L, ab_RR, n, nc, ns)) d_Reader_readClause_64 ce_Reader_fail v_885 v_887 v_22 (by decide) rfl (Nat.le_of_ble_eq_true rfl) (cx_Reader_fail_1 1 hT c43) (Nat.le_refl _) (Nat.le_refl _) hc hs (fun j h9 => by cases h9) (fun _ _ => rfl) ?_
          show ab_E w (d + 1) mt_Reader_readClause 67 [.ref kx_reader, .int v1] [] ((ab_up (ab_up I37 kx_reader 7 1) kx_reader 8 (I37 kx_reader 5)), L, ab_RR, n, nc, ns) res
          refine ab_aload_n (i := 0) d_Reader_readClause_67 rfl rfl ?_
          obtain ⟨I45, hC, h⟩ := h
          refine ab_callV (me2 := mt_Reader_toNext) (b := kx_reader) (as := []) (st := []) (rv := none) (M2 := (I45, L, ab_RR, n, nc, ns)) d_Reader_readClause_68 ce_Reader_toNext v_804 v_806 v_14 (by decide) rfl (Nat.le_of_ble_eq_true rfl) hC (Nat.le_refl _) (Nat.le_refl _) hc hs (fun j h9 => by cases h9) (fun _ _ => rfl) ?_
          show ab_E w (d + 1) mt_Reader_readClause 71 [.ref kx_reader, .int v1] [] (I45, L, ab_RR, n, nc, ns) res
          exact ab_vret d_Reader_readClause_71 rfl h
        · have h := h.2 c43
          refine ab_callV (me2 := mt_Reader_fail) (b := kx_reader) (as := [.int 1]) (st := []) (rv := none) (M2 := (I37, L, ab_RR, n, nc, ns)) d_Reader_readClause_64 ce_Reader_fail v_885 v_887 v_22 (by decide) rfl (Nat.le_of_ble_eq_true rfl) (cx_Reader_fail_0 1 hT c43) (Nat.le_refl _) (Nat.le_refl _) hc hs (fun j h9 => by cases h9) (fun _ _ => rfl) ?_
          show ab_E w (d + 1) mt_Reader_readClause 67 [.ref kx_reader, .int v1] [] (I37, L, ab_RR, n, nc, ns) res
          refine ab_aload_n (i := 0) d_Reader_readClause_67 rfl rfl ?_
          obtain ⟨I47, hC, h⟩ := h
          refine ab_callV (me2 := mt_Reader_toNext) (b := kx_reader) (as := []) (st := []) (rv := none) (M2 := (I47, L, ab_RR, n, nc, ns)) d_Reader_readClause_68 ce_Reader_toNext v_804 v_806 v_14 (by decide) rfl (Nat.le_of_ble_eq_true rfl) hC (Nat.le_refl _) (Nat.le_refl _) hc hs (fun j h9 => by cases h9) (fun _ _ => rfl) ?_
          show ab_E w (d + 1) mt_Reader_readClause 71 [.ref kx_reader, .int v1] [] (I47, L, ab_RR, n, nc, ns) res
          exact ab_vret d_Reader_readClause_71 rfl h
  · have h := h.2 c2
    refine ab_aload_n (i := 0) d_Reader_readClause_9 rfl rfl ?_
    refine ab_iload_n (i := 1) d_Reader_readClause_10 rfl rfl ?_
    obtain ⟨I49, hC, h⟩ := h
    refine ab_callV (me2 := mt_Reader_readSites) (b := kx_reader) (as := [.int v1]) (st := []) (rv := none) (M2 := (I49, L, ab_RR, n, nc, ns)) d_Reader_readClause_11 ce_Reader_readSites v_881 v_883 v_21 (by decide) rfl (Nat.le_of_ble_eq_true rfl) hC (Nat.le_refl _) (Nat.le_refl _) hc hs (fun j h9 => by cases h9) (fun _ _ => rfl) ?_
    show ab_E w (d + 1) mt_Reader_readClause 14 [.ref kx_reader, .int v1] [] (I49, L, ab_RR, n, nc, ns) res
    refine ab_goto (tgt := 54) d_Reader_readClause_14 (by decide) ?_
    refine ab_aload_n (i := 0) d_Reader_readClause_54 rfl rfl ?_
    refine ab_getI (ci := 4) (k := 4) d_Reader_readClause_55 v_771 rfl (by decide) (by decide) rfl ?_
    refine ab_iconst (v := 3) d_Reader_readClause_58 rfl ?_
    refine ab_icmp_eq (tgt := 67) d_Reader_readClause_59 (by decide) (fun c50 => ?_) (fun c50 => ?_)
    · have h := h.1 c50
      refine ab_aload_n (i := 0) d_Reader_readClause_67 rfl rfl ?_
      obtain ⟨I52, hC, h⟩ := h
      refine ab_callV (me2 := mt_Reader_toNext) (b := kx_reader) (as := []) (st := []) (rv := none) (M2 := (I52, L, ab_RR, n, nc, ns)) d_Reader_readClause_68 ce_Reader_toNext v_804 v_806 v_14 (by decide) rfl (Nat.le_of_ble_eq_true rfl) hC (Nat.le_refl _) (Nat.le_refl _) hc hs (fun j h9 => by cases h9) (fun _ _ => rfl) ?_
      show ab_E w (d + 1) mt_Reader_readClause 71 [.ref kx_reader, .int v1] [] (I52, L, ab_RR, n, nc, ns) res
      exact ab_vret d_Reader_readClause_71 rfl h
    · have h := h.2 c50
      refine ab_aload_n (i := 0) d_Reader_readClause_62 rfl rfl ?_
      refine ab_iconst (v := 1) d_Reader_readClause_63 rfl ?_
      by_cases c55 : (I49 kx_reader 7) = 0
      · have h := h.1 c55
        refine ab_callV (me2 := mt_Reader_fail) (b := kx_reader) (as := [.int 1]) (st := []) (rv := none) (M2 := ((ab_up (ab_up I49 kx_reader 7 1) kx_reader 8 (I49 kx_reader 5)), L, ab_RR, n, nc, ns)) d_Reader_readClause_64 ce_Reader_fail v_885 v_887 v_22 (by decide) rfl (Nat.le_of_ble_eq_true rfl) (cx_Reader_fail_1 1 hT c55) (Nat.le_refl _) (Nat.le_refl _) hc hs (fun j h9 => by cases h9) (fun _ _ => rfl) ?_
        show ab_E w (d + 1) mt_Reader_readClause 67 [.ref kx_reader, .int v1] [] ((ab_up (ab_up I49 kx_reader 7 1) kx_reader 8 (I49 kx_reader 5)), L, ab_RR, n, nc, ns) res
        refine ab_aload_n (i := 0) d_Reader_readClause_67 rfl rfl ?_
        obtain ⟨I57, hC, h⟩ := h
        refine ab_callV (me2 := mt_Reader_toNext) (b := kx_reader) (as := []) (st := []) (rv := none) (M2 := (I57, L, ab_RR, n, nc, ns)) d_Reader_readClause_68 ce_Reader_toNext v_804 v_806 v_14 (by decide) rfl (Nat.le_of_ble_eq_true rfl) hC (Nat.le_refl _) (Nat.le_refl _) hc hs (fun j h9 => by cases h9) (fun _ _ => rfl) ?_
        show ab_E w (d + 1) mt_Reader_readClause 71 [.ref kx_reader, .int v1] [] (I57, L, ab_RR, n, nc, ns) res
        exact ab_vret d_Reader_readClause_71 rfl h
      · have h := h.2 c55
        refine ab_callV (me2 := mt_Reader_fail) (b := kx_reader) (as := [.int 1]) (st := []) (rv := none) (M2 := (I49, L, ab_RR, n, nc, ns)) d_Reader_readClause_64 ce_Reader_fail v_885 v_887 v_22 (by decide) rfl (Nat.le_of_ble_eq_true rfl) (cx_Reader_fail_0 1 hT c55) (Nat.le_refl _) (Nat.le_refl _) hc hs (fun j h9 => by cases h9) (fun _ _ => rfl) ?_
        show ab_E w (d + 1) mt_Reader_readClause 67 [.ref kx_reader, .int v1] [] (I49, L, ab_RR, n, nc, ns) res
        refine ab_aload_n (i := 0) d_Reader_readClause_67 rfl rfl ?_
        obtain ⟨I59, hC, h⟩ := h
        refine ab_callV (me2 := mt_Reader_toNext) (b := kx_reader) (as := []) (st := []) (rv := none) (M2 := (I59, L, ab_RR, n, nc, ns)) d_Reader_readClause_68 ce_Reader_toNext v_804 v_806 v_14 (by decide) rfl (Nat.le_of_ble_eq_true rfl) hC (Nat.le_refl _) (Nat.le_refl _) hc hs (fun j h9 => by cases h9) (fun _ _ => rfl) ?_
        show ab_E w (d + 1) mt_Reader_readClause 71 [.ref kx_reader, .int v1] [] (I59, L, ab_RR, n, nc, ns) res
        exact ab_vret d_Reader_readClause_71 rfl h
theorem cx_Reader_isLetter_0 {w : ab_Wd} {d n nc ns : Nat} {I : Nat → Nat → Int32} {L : Nat → Nat → Int64} (v1 : Int32) (hT : w.1.stackTraces = false) (e1 : (vp_in v1 700)) (e2 : (I kx_tape v1.toNatClampNeg) < 97) : ab_C w d mt_Reader_isLetter [.ref kx_reader, .int v1] (I, L, ab_RR, n, nc, ns) (.inl (some (.int 0)), (I, L, ab_RR, n, nc, ns)) := by
  refine ab_C_of (by decide) rfl (Nat.le_of_ble_eq_true rfl) hT ?_
  have hc := Nat.le_refl nc
  have hs := Nat.le_refl ns
  refine ab_aload_n (i := 0) d_Reader_isLetter_0 rfl rfl ?_
  refine ab_getR (ci := 4) (k := 0) (j := kx_tape) d_Reader_isLetter_1 v_767 rfl (by decide) (by decide) rfl r_kx_reader_0 ?_
  refine ab_iload_n (i := 1) d_Reader_isLetter_4 rfl rfl ?_
  refine ab_bald d_Reader_isLetter_5 rfl rfl e1 ?_
  refine ab_bipush (v := 97) d_Reader_isLetter_6 rfl ?_
  refine ab_icmp_lt (tgt := 26) d_Reader_isLetter_8 (by decide) (fun _ => ?_) (fun c9 => absurd e2 c9)
  refine ab_iconst (v := 0) d_Reader_isLetter_26 rfl ?_
  exact ab_iret (ty := .boolean) d_Reader_isLetter_27 rfl rfl rfl
theorem cx_Reader_isLetter_1 {w : ab_Wd} {d n nc ns : Nat} {I : Nat → Nat → Int32} {L : Nat → Nat → Int64} (v1 : Int32) (hT : w.1.stackTraces = false) (e1 : (vp_in v1 700)) (e2 : ¬ (I kx_tape v1.toNatClampNeg) < 97) (e3 : (vp_in v1 700)) (e4 : 122 < (I kx_tape v1.toNatClampNeg)) : ab_C w d mt_Reader_isLetter [.ref kx_reader, .int v1] (I, L, ab_RR, n, nc, ns) (.inl (some (.int 0)), (I, L, ab_RR, n, nc, ns)) := by
  refine ab_C_of (by decide) rfl (Nat.le_of_ble_eq_true rfl) hT ?_
  have hc := Nat.le_refl nc
  have hs := Nat.le_refl ns
  refine ab_aload_n (i := 0) d_Reader_isLetter_0 rfl rfl ?_
  refine ab_getR (ci := 4) (k := 0) (j := kx_tape) d_Reader_isLetter_1 v_767 rfl (by decide) (by decide) rfl r_kx_reader_0 ?_
  refine ab_iload_n (i := 1) d_Reader_isLetter_4 rfl rfl ?_
  refine ab_bald d_Reader_isLetter_5 rfl rfl e1 ?_
  refine ab_bipush (v := 97) d_Reader_isLetter_6 rfl ?_
  refine ab_icmp_lt (tgt := 26) d_Reader_isLetter_8 (by decide) (fun c9 => absurd c9 e2) (fun _ => ?_)
  refine ab_aload_n (i := 0) d_Reader_isLetter_11 rfl rfl ?_
  refine ab_getR (ci := 4) (k := 0) (j := kx_tape) d_Reader_isLetter_12 v_767 rfl (by decide) (by decide) rfl r_kx_reader_0 ?_
  refine ab_iload_n (i := 1) d_Reader_isLetter_15 rfl rfl ?_
  refine ab_bald d_Reader_isLetter_16 rfl rfl e3 ?_
  refine ab_bipush (v := 122) d_Reader_isLetter_17 rfl ?_
  refine ab_icmp_gt (tgt := 26) d_Reader_isLetter_19 (by decide) (fun _ => ?_) (fun c9 => absurd e4 c9)
  refine ab_iconst (v := 0) d_Reader_isLetter_26 rfl ?_
  exact ab_iret (ty := .boolean) d_Reader_isLetter_27 rfl rfl rfl
theorem cx_Reader_isLetter_2 {w : ab_Wd} {d n nc ns : Nat} {I : Nat → Nat → Int32} {L : Nat → Nat → Int64} (v1 : Int32) (hT : w.1.stackTraces = false) (e1 : (vp_in v1 700)) (e2 : ¬ (I kx_tape v1.toNatClampNeg) < 97) (e3 : (vp_in v1 700)) (e4 : ¬ 122 < (I kx_tape v1.toNatClampNeg)) : ab_C w d mt_Reader_isLetter [.ref kx_reader, .int v1] (I, L, ab_RR, n, nc, ns) (.inl (some (.int 1)), (I, L, ab_RR, n, nc, ns)) := by
  refine ab_C_of (by decide) rfl (Nat.le_of_ble_eq_true rfl) hT ?_
  have hc := Nat.le_refl nc
  have hs := Nat.le_refl ns
  refine ab_aload_n (i := 0) d_Reader_isLetter_0 rfl rfl ?_
  refine ab_getR (ci := 4) (k := 0) (j := kx_tape) d_Reader_isLetter_1 v_767 rfl (by decide) (by decide) rfl r_kx_reader_0 ?_
  refine ab_iload_n (i := 1) d_Reader_isLetter_4 rfl rfl ?_
  refine ab_bald d_Reader_isLetter_5 rfl rfl e1 ?_
  refine ab_bipush (v := 97) d_Reader_isLetter_6 rfl ?_
  refine ab_icmp_lt (tgt := 26) d_Reader_isLetter_8 (by decide) (fun c9 => absurd c9 e2) (fun _ => ?_)
  refine ab_aload_n (i := 0) d_Reader_isLetter_11 rfl rfl ?_
  refine ab_getR (ci := 4) (k := 0) (j := kx_tape) d_Reader_isLetter_12 v_767 rfl (by decide) (by decide) rfl r_kx_reader_0 ?_
  refine ab_iload_n (i := 1) d_Reader_isLetter_15 rfl rfl ?_
  refine ab_bald d_Reader_isLetter_16 rfl rfl e3 ?_
  refine ab_bipush (v := 122) d_Reader_isLetter_17 rfl ?_
  refine ab_icmp_gt (tgt := 26) d_Reader_isLetter_19 (by decide) (fun c9 => absurd c9 e4) (fun _ => ?_)
  refine ab_iconst (v := 1) d_Reader_isLetter_22 rfl ?_
  refine ab_goto (tgt := 27) d_Reader_isLetter_23 (by decide) ?_
  exact ab_iret (ty := .boolean) d_Reader_isLetter_27 rfl rfl rfl
theorem cx_Reader_isDigit_0 {w : ab_Wd} {d n nc ns : Nat} {I : Nat → Nat → Int32} {L : Nat → Nat → Int64} (v1 : Int32) (hT : w.1.stackTraces = false) (e1 : (vp_in v1 700)) (e2 : (I kx_tape v1.toNatClampNeg) < 48) : ab_C w d mt_Reader_isDigit [.ref kx_reader, .int v1] (I, L, ab_RR, n, nc, ns) (.inl (some (.int 0)), (I, L, ab_RR, n, nc, ns)) := by
  refine ab_C_of (by decide) rfl (Nat.le_of_ble_eq_true rfl) hT ?_
  have hc := Nat.le_refl nc
  have hs := Nat.le_refl ns
  refine ab_aload_n (i := 0) d_Reader_isDigit_0 rfl rfl ?_
  refine ab_getR (ci := 4) (k := 0) (j := kx_tape) d_Reader_isDigit_1 v_767 rfl (by decide) (by decide) rfl r_kx_reader_0 ?_
  refine ab_iload_n (i := 1) d_Reader_isDigit_4 rfl rfl ?_
  refine ab_bald d_Reader_isDigit_5 rfl rfl e1 ?_
  refine ab_bipush (v := 48) d_Reader_isDigit_6 rfl ?_
  refine ab_icmp_lt (tgt := 26) d_Reader_isDigit_8 (by decide) (fun _ => ?_) (fun c9 => absurd e2 c9)
  refine ab_iconst (v := 0) d_Reader_isDigit_26 rfl ?_
  exact ab_iret (ty := .boolean) d_Reader_isDigit_27 rfl rfl rfl
theorem cx_Reader_isDigit_1 {w : ab_Wd} {d n nc ns : Nat} {I : Nat → Nat → Int32} {L : Nat → Nat → Int64} (v1 : Int32) (hT : w.1.stackTraces = false) (e1 : (vp_in v1 700)) (e2 : ¬ (I kx_tape v1.toNatClampNeg) < 48) (e3 : (vp_in v1 700)) (e4 : 57 < (I kx_tape v1.toNatClampNeg)) : ab_C w d mt_Reader_isDigit [.ref kx_reader, .int v1] (I, L, ab_RR, n, nc, ns) (.inl (some (.int 0)), (I, L, ab_RR, n, nc, ns)) := by
  refine ab_C_of (by decide) rfl (Nat.le_of_ble_eq_true rfl) hT ?_
  have hc := Nat.le_refl nc
  have hs := Nat.le_refl ns
  refine ab_aload_n (i := 0) d_Reader_isDigit_0 rfl rfl ?_
  refine ab_getR (ci := 4) (k := 0) (j := kx_tape) d_Reader_isDigit_1 v_767 rfl (by decide) (by decide) rfl r_kx_reader_0 ?_
  refine ab_iload_n (i := 1) d_Reader_isDigit_4 rfl rfl ?_
  refine ab_bald d_Reader_isDigit_5 rfl rfl e1 ?_
  refine ab_bipush (v := 48) d_Reader_isDigit_6 rfl ?_
  refine ab_icmp_lt (tgt := 26) d_Reader_isDigit_8 (by decide) (fun c9 => absurd c9 e2) (fun _ => ?_)
  refine ab_aload_n (i := 0) d_Reader_isDigit_11 rfl rfl ?_
  refine ab_getR (ci := 4) (k := 0) (j := kx_tape) d_Reader_isDigit_12 v_767 rfl (by decide) (by decide) rfl r_kx_reader_0 ?_
  refine ab_iload_n (i := 1) d_Reader_isDigit_15 rfl rfl ?_
  refine ab_bald d_Reader_isDigit_16 rfl rfl e3 ?_
  refine ab_bipush (v := 57) d_Reader_isDigit_17 rfl ?_
  refine ab_icmp_gt (tgt := 26) d_Reader_isDigit_19 (by decide) (fun _ => ?_) (fun c9 => absurd e4 c9)
  refine ab_iconst (v := 0) d_Reader_isDigit_26 rfl ?_
  exact ab_iret (ty := .boolean) d_Reader_isDigit_27 rfl rfl rfl
theorem cx_Reader_isDigit_2 {w : ab_Wd} {d n nc ns : Nat} {I : Nat → Nat → Int32} {L : Nat → Nat → Int64} (v1 : Int32) (hT : w.1.stackTraces = false) (e1 : (vp_in v1 700)) (e2 : ¬ (I kx_tape v1.toNatClampNeg) < 48) (e3 : (vp_in v1 700)) (e4 : ¬ 57 < (I kx_tape v1.toNatClampNeg)) : ab_C w d mt_Reader_isDigit [.ref kx_reader, .int v1] (I, L, ab_RR, n, nc, ns) (.inl (some (.int 1)), (I, L, ab_RR, n, nc, ns)) := by
  refine ab_C_of (by decide) rfl (Nat.le_of_ble_eq_true rfl) hT ?_
  have hc := Nat.le_refl nc
  have hs := Nat.le_refl ns
  refine ab_aload_n (i := 0) d_Reader_isDigit_0 rfl rfl ?_
  refine ab_getR (ci := 4) (k := 0) (j := kx_tape) d_Reader_isDigit_1 v_767 rfl (by decide) (by decide) rfl r_kx_reader_0 ?_
  refine ab_iload_n (i := 1) d_Reader_isDigit_4 rfl rfl ?_
  refine ab_bald d_Reader_isDigit_5 rfl rfl e1 ?_
  refine ab_bipush (v := 48) d_Reader_isDigit_6 rfl ?_
  refine ab_icmp_lt (tgt := 26) d_Reader_isDigit_8 (by decide) (fun c9 => absurd c9 e2) (fun _ => ?_)
  refine ab_aload_n (i := 0) d_Reader_isDigit_11 rfl rfl ?_
  refine ab_getR (ci := 4) (k := 0) (j := kx_tape) d_Reader_isDigit_12 v_767 rfl (by decide) (by decide) rfl r_kx_reader_0 ?_
  refine ab_iload_n (i := 1) d_Reader_isDigit_15 rfl rfl ?_
  refine ab_bald d_Reader_isDigit_16 rfl rfl e3 ?_
  refine ab_bipush (v := 57) d_Reader_isDigit_17 rfl ?_
  refine ab_icmp_gt (tgt := 26) d_Reader_isDigit_19 (by decide) (fun c9 => absurd c9 e4) (fun _ => ?_)
  refine ab_iconst (v := 1) d_Reader_isDigit_22 rfl ?_
  refine ab_goto (tgt := 27) d_Reader_isDigit_23 (by decide) ?_
  exact ab_iret (ty := .boolean) d_Reader_isDigit_27 rfl rfl rfl
