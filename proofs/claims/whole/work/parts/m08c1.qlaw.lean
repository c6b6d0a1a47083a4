theorem q_W_law_566 {w : ab_Wd} {d n nc ns : Nat} {I : Nat → Nat → Int32} {L : Nat → Nat → Int64} {res : ab_Re} (v4 : Int32) (hc : nc ≤ res.2.2.2.2.2.1) (hs : ns ≤ res.2.2.2.2.2.2)
    (h : (vp_in (v4 + 1) w.2.2.2.2.1) ∧ (vp_in (v4 + 2) w.2.2.2.2.1) ∧ ∃ (r3 : Int32) (I4 : Nat → Nat → Int32) (L5 : Nat → Nat → Int64) (n6 nc7 ns8 : Nat), (ab_CH w d mt_W_site [.ref kx, .int (w.2.2.2.2.2.1 (v4 + 1).toNatClampNeg), .int (w.2.2.2.2.2.1 (v4 + 2).toNatClampNeg), .ref ox_out] (I, L, ab_RR, n, nc, ns) (.inl (some (.int r3)), (I4, L5, ab_RR, n6, nc7, ns8)) ∧ nc ≤ nc7 ∧ ns ≤ ns8 ∧ nc7 ≤ res.2.2.2.2.2.1 ∧ ns8 ≤ res.2.2.2.2.2.2) ∧ (vp_in (v4 + 1) w.2.2.2.2.1) ∧ (vp_in (v4 + 2) w.2.2.2.2.1) ∧ ∃ (r11 : Int32) (I12 : Nat → Nat → Int32), ab_C w d mt_M_site [.ref mx, .int (w.2.2.2.2.2.1 (v4 + 1).toNatClampNeg), .int (w.2.2.2.2.2.1 (v4 + 2).toNatClampNeg)] (I4, L5, ab_RR, n, nc7, ns8) (.inl (some (.int r11)), (I12, L5, ab_RR, n, nc7, ns8)) ∧ ∃ (r13 : Int32), ab_C w d mt_M_thrown [.ref mx] (I12, L5, ab_RR, n, nc7, ns8) (.inl (some (.int r13)), (I12, L5, ab_RR, n, nc7, ns8)) ∧ ((r13 = r3 → ((¬ r3 = 0 → (ab_E w (d + 1) mt_W_law 631 [.ref 34, .ref kx, .ref mx, .ref ox_out, .int v4, .int r3, .int r11] [] (I12, L5, ab_RR, n, nc7, ns8) res)) ∧ (r3 = 0 → (((lg_cmp (L5 ox_out 0) (Int32.toInt64 r11)) = 0 → (ab_E w (d + 1) mt_W_law 631 [.ref 34, .ref kx, .ref mx, .ref ox_out, .int v4, .int r3, .int r11] [] (I12, L5, ab_RR, n, nc7, ns8) res)) ∧ (¬ (lg_cmp (L5 ox_out 0) (Int32.toInt64 r11)) = 0 → (res = (.inl (some (.int 0)), (I12, L5, ab_RR, n, nc7, ns8)))))))) ∧ (¬ r13 = r3 → (res = (.inl (some (.int 0)), (I12, L5, ab_RR, n, nc7, ns8)))))) : ab_E w (d + 1) mt_W_law 566 [.ref 34, .ref kx, .ref mx, .ref ox_out, .int v4, .null, .null] [] (I, L, ab_RR, n, nc, ns) res := by
  refine ab_aload_n (i := 1) d_W_law_566 rfl rfl ?_
  refine ab_aload_n (i := 0) d_W_law_567 rfl rfl ?_
  refine ab_iload (i := 4) d_W_law_568 rfl ?_
  refine ab_iconst (v := 1) d_W_law_570 rfl ?_
  refine ab_iadd d_W_law_571 ?_
  have g1 := h.1; have h := h.2
  refine ab_sald d_W_law_572 g1 ?_
  refine ab_aload_n (i := 0) d_W_law_573 rfl rfl ?_
  refine ab_iload (i := 4) d_W_law_574 rfl ?_
  refine ab_iconst (v := 2) d_W_law_576 rfl ?_
  refine ab_iadd d_W_law_577 ?_
  have g2 := h.1; have h := h.2
  refine ab_sald d_W_law_578 g2 ?_
  refine ab_aload_n (i := 3) d_W_law_579 rfl rfl ?_
  obtain ⟨r3, I4, L5, n6, nc7, ns8, ⟨hC, l1, l2, hc, hs⟩, h⟩ := h
  refine ab_callSH (me2 := mt_W_site) (as := [.ref kx, .int (w.2.2.2.2.2.1 (v4 + 1).toNatClampNeg), .int (w.2.2.2.2.2.1 (v4 + 2).toNatClampNeg), .ref ox_out]) (st := []) (rv := some (.int r3)) (M2 := (I4, L5, ab_RR, n6, nc7, ns8)) d_W_law_580 v_1119 v_139 ⟨by decide, by decide, (show (parseMethodDescriptor mt_W_site.1.desc).map (fun d => d.parameters.length) = some 4 from by decide +kernel)⟩ (by decide) v_1117 v_1118 (Nat.le_of_ble_eq_true rfl) hC l1 l2 hc hs (fun j h9 => by cases h9) (fun _ _ => rfl) ?_
  show ab_E w (d + 1) mt_W_law 583 [.ref 34, .ref kx, .ref mx, .ref ox_out, .int v4, .null, .null] [.int r3] (I4, L5, ab_RR, n, nc7, ns8) res
  refine ab_istore (i := 5) d_W_law_583 (by decide) (Or.inr rfl) ?_
  refine ab_aload_n (i := 2) d_W_law_585 rfl rfl ?_
  refine ab_aload_n (i := 0) d_W_law_586 rfl rfl ?_
  refine ab_iload (i := 4) d_W_law_587 rfl ?_
  refine ab_iconst (v := 1) d_W_law_589 rfl ?_
  refine ab_iadd d_W_law_590 ?_
  have g9 := h.1; have h := h.2
  refine ab_sald d_W_law_591 g9 ?_
  refine ab_aload_n (i := 0) d_W_law_592 rfl rfl ?_
  refine ab_iload (i := 4) d_W_law_593 rfl ?_
  refine ab_iconst (v := 2) d_W_law_595 rfl ?_
  refine ab_iadd d_W_law_596 ?_
  have g10 := h.1; have h := h.2
  refine ab_sald d_W_law_597 g10 ?_
  obtain ⟨r11, I12, hC, h⟩ := h
  refine ab_callV (me2 := mt_M_site) (b := mx) (as := [.int (w.2.2.2.2.2.1 (v4 + 1).toNatClampNeg), .int (w.2.2.2.2.2.1 (v4 + 2).toNatClampNeg)]) (st := []) (rv := (some (.int r11))) (M2 := (I12, L5, ab_RR, n, nc7, ns8)) d_W_law_598 ce_M_site v_1779 v_1780 v_1781 (by decide) rfl (Nat.le_of_ble_eq_true rfl) hC (Nat.le_refl _) (Nat.le_refl _) hc hs (fun j h9 => by cases h9) (fun _ _ => rfl) ?_
  show ab_E w (d + 1) mt_W_law 601 [.ref 34, .ref kx, .ref mx, .ref ox_out, .int v4, .int r3, .null] [.int r11] (I12, L5, ab_RR, n, nc7, ns8) res
  refine ab_istore (i := 6) d_W_law_601 (by decide) (Or.inr rfl) ?_
  refine ab_aload_n (i := 2) d_W_law_603 rfl rfl ?_
  obtain ⟨r13, hC, h⟩ := h
  refine ab_callV (me2 := mt_M_thrown) (b := mx) (as := []) (st := []) (rv := (some (.int r13))) (M2 := (I12, L5, ab_RR, n, nc7, ns8)) d_W_law_604 ce_M_thrown v_1550 v_1551 v_1552 (by decide) rfl (Nat.le_of_ble_eq_true rfl) hC (Nat.le_refl _) (Nat.le_refl _) hc hs (fun j h9 => by cases h9) (fun _ _ => rfl) ?_
  show ab_E w (d + 1) mt_W_law 607 [.ref 34, .ref kx, .ref mx, .ref ox_out, .int v4, .int r3, .int r11] [.int r13] (I12, L5, ab_RR, n, nc7, ns8) res
  refine ab_iload (i := 5) d_W_law_607 rfl ?_
  refine ab_icmp_eq (tgt := 614) d_W_law_609 (by decide) (fun c14 => ?_) (fun c14 => ?_)
  · have h := h.1 c14
    refine ab_iload (i := 5) d_W_law_614 rfl ?_
    refine ab_if_ne (tgt := 631) d_W_law_616 (by decide) (fun c15 => ?_) (fun c15 => ?_)
    · have h := h.1 c15
      exact h
    · have h := h.2 c15
      refine ab_aload_n (i := 3) d_W_law_619 rfl rfl ?_
      refine ab_iconst (v := 0) d_W_law_620 rfl ?_
      refine ab_lald d_W_law_621 rfl rfl (by unfold vp_in; decide) ?_
      refine ab_iload (i := 6) d_W_law_622 rfl ?_
      refine ab_i2l d_W_law_624 ?_
      refine ab_lcmp d_W_law_625 ?_
      refine ab_if_eq (tgt := 631) d_W_law_626 (by decide) (fun c16 => ?_) (fun c16 => ?_)
      · have h := h.1 c16
        exact h
      · have h := h.2 c16
        refine ab_iconst (v := 0) d_W_law_629 rfl ?_
        exact ab_iret (ty := .boolean) d_W_law_630 rfl rfl h
  · have h := h.2 c14
    refine ab_iconst (v := 0) d_W_law_612 rfl ?_
    exact ab_iret (ty := .boolean) d_W_law_613 rfl rfl h
theorem q_W_law_631 {w : ab_Wd} {d n nc ns : Nat} {I : Nat → Nat → Int32} {L : Nat → Nat → Int64} {res : ab_Re} (v4 : Int32) (v5 : Int32) (v6 : Int32) (hc : nc ≤ res.2.2.2.2.2.1) (hs : ns ≤ res.2.2.2.2.2.2)
    (h : ab_E w (d + 1) mt_W_law 1658 [.ref 34, .ref kx, .ref mx, .ref ox_out, .int v4, .null, .null] [] (I, L, ab_RR, n, nc, ns) res) : ab_E w (d + 1) mt_W_law 631 [.ref 34, .ref kx, .ref mx, .ref ox_out, .int v4, .int v5, .int v6] [] (I, L, ab_RR, n, nc, ns) res := by
  refine ab_goto (tgt := 1658) d_W_law_631 (by decide) ?_
  refine ab_drop 5 ?_
  refine ab_drop 6 ?_
  exact h
theorem q_W_law_634 {w : ab_Wd} {d n nc ns : Nat} {I : Nat → Nat → Int32} {L : Nat → Nat → Int64} {res : ab_Re} (v4 : Int32) (hc : nc ≤ res.2.2.2.2.2.1) (hs : ns ≤ res.2.2.2.2.2.2)
    (h : (vp_in (v4 + 1) w.2.2.2.2.1) ∧ (vp_in (v4 + 2) w.2.2.2.2.1) ∧ (vp_in (v4 + 3) w.2.2.2.2.1) ∧ ∃ (r4 : Int32) (I5 : Nat → Nat → Int32) (L6 : Nat → Nat → Int64) (n7 nc8 ns9 : Nat), (ab_CH w d mt_W_way [.ref kx, .int (w.2.2.2.2.2.1 (v4 + 1).toNatClampNeg), .int (w.2.2.2.2.2.1 (v4 + 2).toNatClampNeg), .int (w.2.2.2.2.2.1 (v4 + 3).toNatClampNeg), .ref ox_out] (I, L, ab_RR, n, nc, ns) (.inl (some (.int r4)), (I5, L6, ab_RR, n7, nc8, ns9)) ∧ nc ≤ nc8 ∧ ns ≤ ns9 ∧ nc8 ≤ res.2.2.2.2.2.1 ∧ ns9 ≤ res.2.2.2.2.2.2) ∧ (vp_in (v4 + 1) w.2.2.2.2.1) ∧ (vp_in (v4 + 2) w.2.2.2.2.1) ∧ (vp_in (v4 + 3) w.2.2.2.2.1) ∧ ∃ (r13 : Int32) (I14 : Nat → Nat → Int32), ab_C w d mt_M_way [.ref mx, .int (w.2.2.2.2.2.1 (v4 + 1).toNatClampNeg), .int (w.2.2.2.2.2.1 (v4 + 2).toNatClampNeg), .int (w.2.2.2.2.2.1 (v4 + 3).toNatClampNeg)] (I5, L6, ab_RR, n, nc8, ns9) (.inl (some (.int r13)), (I14, L6, ab_RR, n, nc8, ns9)) ∧ ∃ (r15 : Int32), ab_C w d mt_M_thrown [.ref mx] (I14, L6, ab_RR, n, nc8, ns9) (.inl (some (.int r15)), (I14, L6, ab_RR, n, nc8, ns9)) ∧ ((r15 = r4 → ((¬ r4 = 0 → (ab_E w (d + 1) mt_W_law 711 [.ref 34, .ref kx, .ref mx, .ref ox_out, .int v4, .int r4, .int r13] [] (I14, L6, ab_RR, n, nc8, ns9) res)) ∧ (r4 = 0 → (((lg_cmp (L6 ox_out 0) (Int32.toInt64 r13)) = 0 → (ab_E w (d + 1) mt_W_law 711 [.ref 34, .ref kx, .ref mx, .ref ox_out, .int v4, .int r4, .int r13] [] (I14, L6, ab_RR, n, nc8, ns9) res)) ∧ (¬ (lg_cmp (L6 ox_out 0) (Int32.toInt64 r13)) = 0 → (res = (.inl (some (.int 0)), (I14, L6, ab_RR, n, nc8, ns9)))))))) ∧ (¬ r15 = r4 → (res = (.inl (some (.int 0)), (I14, L6, ab_RR, n, nc8, ns9)))))) : ab_E w (d + 1) mt_W_law 634 [.ref 34, .ref kx, .ref mx, .ref ox_out, .int v4, .null, .null] [] (I, L, ab_RR, n, nc, ns) res := by
  refine ab_aload_n (i := 1) d_W_law_634 rfl rfl ?_
  refine ab_aload_n (i := 0) d_W_law_635 rfl rfl ?_
  refine ab_iload (i := 4) d_W_law_636 rfl ?_
  refine ab_iconst (v := 1) d_W_law_638 rfl ?_
  refine ab_iadd d_W_law_639 ?_
  have g1 := h.1; have h := h.2
  refine ab_sald d_W_law_640 g1 ?_
  refine ab_aload_n (i := 0) d_W_law_641 rfl rfl ?_
  refine ab_iload (i := 4) d_W_law_642 rfl ?_
  refine ab_iconst (v := 2) d_W_law_644 rfl ?_
  refine ab_iadd d_W_law_645 ?_
  have g2 := h.1; have h := h.2
  refine ab_sald d_W_law_646 g2 ?_
  refine ab_aload_n (i := 0) d_W_law_647 rfl rfl ?_
  refine ab_iload (i := 4) d_W_law_648 rfl ?_
  refine ab_iconst (v := 3) d_W_law_650 rfl ?_
  refine ab_iadd d_W_law_651 ?_
  have g3 := h.1; have h := h.2
  refine ab_sald d_W_law_652 g3 ?_
  refine ab_aload_n (i := 3) d_W_law_653 rfl rfl ?_
  obtain ⟨r4, I5, L6, n7, nc8, ns9, ⟨hC, l1, l2, hc, hs⟩, h⟩ := h
  refine ab_callSH (me2 := mt_W_way) (as := [.ref kx, .int (w.2.2.2.2.2.1 (v4 + 1).toNatClampNeg), .int (w.2.2.2.2.2.1 (v4 + 2).toNatClampNeg), .int (w.2.2.2.2.2.1 (v4 + 3).toNatClampNeg), .ref ox_out]) (st := []) (rv := some (.int r4)) (M2 := (I5, L6, ab_RR, n7, nc8, ns9)) d_W_law_654 v_1138 v_139 ⟨by decide, by decide, (show (parseMethodDescriptor mt_W_way.1.desc).map (fun d => d.parameters.length) = some 5 from by decide +kernel)⟩ (by decide) v_1136 v_1137 (Nat.le_of_ble_eq_true rfl) hC l1 l2 hc hs (fun j h9 => by cases h9) (fun _ _ => rfl) ?_
  show ab_E w (d + 1) mt_W_law 657 [.ref 34, .ref kx, .ref mx, .ref ox_out, .int v4, .null, .null] [.int r4] (I5, L6, ab_RR, n, nc8, ns9) res
  refine ab_istore (i := 5) d_W_law_657 (by decide) (Or.inr rfl) ?_
  refine ab_aload_n (i := 2) d_W_law_659 rfl rfl ?_
  refine ab_aload_n (i := 0) d_W_law_660 rfl rfl ?_
  refine ab_iload (i := 4) d_W_law_661 rfl ?_
  refine ab_iconst (v := 1) d_W_law_663 rfl ?_
  refine ab_iadd d_W_law_664 ?_
  have g10 := h.1; have h := h.2
  refine ab_sald d_W_law_665 g10 ?_
  refine ab_aload_n (i := 0) d_W_law_666 rfl rfl ?_
  refine ab_iload (i := 4) d_W_law_667 rfl ?_
  refine ab_iconst (v := 2) d_W_law_669 rfl ?_
  refine ab_iadd d_W_law_670 ?_
  have g11 := h.1; have h := h.2
  refine ab_sald d_W_law_671 g11 ?_
  refine ab_aload_n (i := 0) d_W_law_672 rfl rfl ?_
  refine ab_iload (i := 4) d_W_law_673 rfl ?_
  refine ab_iconst (v := 3) d_W_law_675 rfl ?_
  refine ab_iadd d_W_law_676 ?_
  have g12 := h.1; have h := h.2
  refine ab_sald d_W_law_677 g12 ?_
  obtain ⟨r13, I14, hC, h⟩ := h
  refine ab_callV (me2 := mt_M_way) (b := mx) (as := [.int (w.2.2.2.2.2.1 (v4 + 1).toNatClampNeg), .int (w.2.2.2.2.2.1 (v4 + 2).toNatClampNeg), .int (w.2.2.2.2.2.1 (v4 + 3).toNatClampNeg)]) (st := []) (rv := (some (.int r13))) (M2 := (I14, L6, ab_RR, n, nc8, ns9)) d_W_law_678 ce_M_way v_1791 v_1792 v_1793 (by decide) rfl (Nat.le_of_ble_eq_true rfl) hC (Nat.le_refl _) (Nat.le_refl _) hc hs (fun j h9 => by cases h9) (fun _ _ => rfl) ?_
  show ab_E w (d + 1) mt_W_law 681 [.ref 34, .ref kx, .ref mx, .ref ox_out, .int v4, .int r4, .null] [.int r13] (I14, L6, ab_RR, n, nc8, ns9) res
  refine ab_istore (i := 6) d_W_law_681 (by decide) (Or.inr rfl) ?_
  refine ab_aload_n (i := 2) d_W_law_683 rfl rfl ?_
  obtain ⟨r15, hC, h⟩ := h
  refine ab_callV (me2 := mt_M_thrown) (b := mx) (as := []) (st := []) (rv := (some (.int r15))) (M2 := (I14, L6, ab_RR, n, nc8, ns9)) d_W_law_684 ce_M_thrown v_1550 v_1551 v_1552 (by decide) rfl (Nat.le_of_ble_eq_true rfl) hC (Nat.le_refl _) (Nat.le_refl _) hc hs (fun j h9 => by cases h9) (fun _ _ => rfl) ?_
  show ab_E w (d + 1) mt_W_law 687 [.ref 34, .ref kx, .ref mx, .ref ox_out, .int v4, .int r4, .int r13] [.int r15] (I14, L6, ab_RR, n, nc8, ns9) res
  refine ab_iload (i := 5) d_W_law_687 rfl ?_
  refine ab_icmp_eq (tgt := 694) d_W_law_689 (by decide) (fun c16 => ?_) (fun c16 => ?_)
  · have h := h.1 c16
    refine ab_iload (i := 5) d_W_law_694 rfl ?_
    refine ab_if_ne (tgt := 711) d_W_law_696 (by decide) (fun c17 => ?_) (fun c17 => ?_)
    · have h := h.1 c17
      exact h
    · have h := h.2 c17
      refine ab_aload_n (i := 3) d_W_law_699 rfl rfl ?_
      refine ab_iconst (v := 0) d_W_law_700 rfl ?_
      refine ab_lald d_W_law_701 rfl rfl (by unfold vp_in; decide) ?_
      refine ab_iload (i := 6) d_W_law_702 rfl ?_
      refine ab_i2l d_W_law_704 ?_
      refine ab_lcmp d_W_law_705 ?_
      refine ab_if_eq (tgt := 711) d_W_law_706 (by decide) (fun c18 => ?_) (fun c18 => ?_)
      · have h := h.1 c18
        exact h
      · have h := h.2 c18
        refine ab_iconst (v := 0) d_W_law_709 rfl ?_
        exact ab_iret (ty := .boolean) d_W_law_710 rfl rfl h
  · have h := h.2 c16
    refine ab_iconst (v := 0) d_W_law_692 rfl ?_
    exact ab_iret (ty := .boolean) d_W_law_693 rfl rfl h
theorem q_W_law_711 {w : ab_Wd} {d n nc ns : Nat} {I : Nat → Nat → Int32} {L : Nat → Nat → Int64} {res : ab_Re} (v4 : Int32) (v5 : Int32) (v6 : Int32) (hc : nc ≤ res.2.2.2.2.2.1) (hs : ns ≤ res.2.2.2.2.2.2)
    (h : ab_E w (d + 1) mt_W_law 1658 [.ref 34, .ref kx, .ref mx, .ref ox_out, .int v4, .null, .null] [] (I, L, ab_RR, n, nc, ns) res) : ab_E w (d + 1) mt_W_law 711 [.ref 34, .ref kx, .ref mx, .ref ox_out, .int v4, .int v5, .int v6] [] (I, L, ab_RR, n, nc, ns) res := by
  refine ab_goto (tgt := 1658) d_W_law_711 (by decide) ?_
  refine ab_drop 5 ?_
  refine ab_drop 6 ?_
  exact h
theorem q_W_law_714 {w : ab_Wd} {d n nc ns : Nat} {I : Nat → Nat → Int32} {L : Nat → Nat → Int64} {res : ab_Re} (v4 : Int32) (hc : nc ≤ res.2.2.2.2.2.1) (hs : ns ≤ res.2.2.2.2.2.2)
    (h : (vp_in (v4 + 1) w.2.2.2.2.1) ∧ (vp_in (v4 + 2) w.2.2.2.2.1) ∧ ∃ (r3 : Int32) (I4 : Nat → Nat → Int32) (L5 : Nat → Nat → Int64) (n6 nc7 ns8 : Nat), (ab_CH w d mt_W_firm [.ref kx, .int (w.2.2.2.2.2.1 (v4 + 1).toNatClampNeg), .int (w.2.2.2.2.2.1 (v4 + 2).toNatClampNeg), .ref ox_out] (I, L, ab_RR, n, nc, ns) (.inl (some (.int r3)), (I4, L5, ab_RR, n6, nc7, ns8)) ∧ nc ≤ nc7 ∧ ns ≤ ns8 ∧ nc7 ≤ res.2.2.2.2.2.1 ∧ ns8 ≤ res.2.2.2.2.2.2) ∧ (vp_in (v4 + 1) w.2.2.2.2.1) ∧ (vp_in (v4 + 2) w.2.2.2.2.1) ∧ ∃ (r11 : Int32) (I12 : Nat → Nat → Int32), ab_C w d mt_M_firm [.ref mx, .int (w.2.2.2.2.2.1 (v4 + 1).toNatClampNeg), .int (w.2.2.2.2.2.1 (v4 + 2).toNatClampNeg)] (I4, L5, ab_RR, n, nc7, ns8) (.inl (some (.int r11)), (I12, L5, ab_RR, n, nc7, ns8)) ∧ ∃ (r13 : Int32), ab_C w d mt_M_thrown [.ref mx] (I12, L5, ab_RR, n, nc7, ns8) (.inl (some (.int r13)), (I12, L5, ab_RR, n, nc7, ns8)) ∧ ((r13 = r3 → ((¬ r3 = 0 → (ab_E w (d + 1) mt_W_law 779 [.ref 34, .ref kx, .ref mx, .ref ox_out, .int v4, .int r3, .int r11] [] (I12, L5, ab_RR, n, nc7, ns8) res)) ∧ (r3 = 0 → (((lg_cmp (L5 ox_out 0) (Int32.toInt64 r11)) = 0 → (ab_E w (d + 1) mt_W_law 779 [.ref 34, .ref kx, .ref mx, .ref ox_out, .int v4, .int r3, .int r11] [] (I12, L5, ab_RR, n, nc7, ns8) res)) ∧ (¬ (lg_cmp (L5 ox_out 0) (Int32.toInt64 r11)) = 0 → (res = (.inl (some (.int 0)), (I12, L5, ab_RR, n, nc7, ns8)))))))) ∧ (¬ r13 = r3 → (res = (.inl (some (.int 0)), (I12, L5, ab_RR, n, nc7, ns8)))))) : ab_E w (d + 1) mt_W_law 714 [.ref 34, .ref kx, .ref mx, .ref ox_out, .int v4, .null, .null] [] (I, L, ab_RR, n, nc, ns) res := by
  refine ab_aload_n (i := 1) d_W_law_714 rfl rfl ?_
  refine ab_aload_n (i := 0) d_W_law_715 rfl rfl ?_
  refine ab_iload (i := 4) d_W_law_716 rfl ?_
  refine ab_iconst (v := 1) d_W_law_718 rfl ?_
  refine ab_iadd d_W_law_719 ?_
  have g1 := h.1; have h := h.2
  refine ab_sald d_W_law_720 g1 ?_
  refine ab_aload_n (i := 0) d_W_law_721 rfl rfl ?_
  refine ab_iload (i := 4) d_W_law_722 rfl ?_
  refine ab_iconst (v := 2) d_W_law_724 rfl ?_
  refine ab_iadd d_W_law_725 ?_
  have g2 := h.1; have h := h.2
  refine ab_sald d_W_law_726 g2 ?_
  refine ab_aload_n (i := 3) d_W_law_727 rfl rfl ?_
  obtain ⟨r3, I4, L5, n6, nc7, ns8, ⟨hC, l1, l2, hc, hs⟩, h⟩ := h
  refine ab_callSH (me2 := mt_W_firm) (as := [.ref kx, .int (w.2.2.2.2.2.1 (v4 + 1).toNatClampNeg), .int (w.2.2.2.2.2.1 (v4 + 2).toNatClampNeg), .ref ox_out]) (st := []) (rv := some (.int r3)) (M2 := (I4, L5, ab_RR, n6, nc7, ns8)) d_W_law_728 v_1174 v_139 ⟨by decide, by decide, (show (parseMethodDescriptor mt_W_firm.1.desc).map (fun d => d.parameters.length) = some 4 from by decide +kernel)⟩ (by decide) v_1172 v_1173 (Nat.le_of_ble_eq_true rfl) hC l1 l2 hc hs (fun j h9 => by cases h9) (fun _ _ => rfl) ?_
  show ab_E w (d + 1) mt_W_law 731 [.ref 34, .ref kx, .ref mx, .ref ox_out, .int v4, .null, .null] [.int r3] (I4, L5, ab_RR, n, nc7, ns8) res
  refine ab_istore (i := 5) d_W_law_731 (by decide) (Or.inr rfl) ?_
  refine ab_aload_n (i := 2) d_W_law_733 rfl rfl ?_
  refine ab_aload_n (i := 0) d_W_law_734 rfl rfl ?_
  refine ab_iload (i := 4) d_W_law_735 rfl ?_
  refine ab_iconst (v := 1) d_W_law_737 rfl ?_
  refine ab_iadd d_W_law_738 ?_
  have g9 := h.1; have h := h.2
  refine ab_sald d_W_law_739 g9 ?_
  refine ab_aload_n (i := 0) d_W_law_740 rfl rfl ?_
  refine ab_iload (i := 4) d_W_law_741 rfl ?_
  refine ab_iconst (v := 2) d_W_law_743 rfl ?_
  refine ab_iadd d_W_law_744 ?_
  have g10 := h.1; have h := h.2
  refine ab_sald d_W_law_745 g10 ?_
  obtain ⟨r11, I12, hC, h⟩ := h
  refine ab_callV (me2 := mt_M_firm) (b := mx) (as := [.int (w.2.2.2.2.2.1 (v4 + 1).toNatClampNeg), .int (w.2.2.2.2.2.1 (v4 + 2).toNatClampNeg)]) (st := []) (rv := (some (.int r11))) (M2 := (I12, L5, ab_RR, n, nc7, ns8)) d_W_law_746 ce_M_firm v_1863 v_1864 v_1865 (by decide) rfl (Nat.le_of_ble_eq_true rfl) hC (Nat.le_refl _) (Nat.le_refl _) hc hs (fun j h9 => by cases h9) (fun _ _ => rfl) ?_
  show ab_E w (d + 1) mt_W_law 749 [.ref 34, .ref kx, .ref mx, .ref ox_out, .int v4, .int r3, .null] [.int r11] (I12, L5, ab_RR, n, nc7, ns8) res
  refine ab_istore (i := 6) d_W_law_749 (by decide) (Or.inr rfl) ?_
  refine ab_aload_n (i := 2) d_W_law_751 rfl rfl ?_
  obtain ⟨r13, hC, h⟩ := h
  refine ab_callV (me2 := mt_M_thrown) (b := mx) (as := []) (st := []) (rv := (some (.int r13))) (M2 := (I12, L5, ab_RR, n, nc7, ns8)) d_W_law_752 ce_M_thrown v_1550 v_1551 v_1552 (by decide) rfl (Nat.le_of_ble_eq_true rfl) hC (Nat.le_refl _) (Nat.le_refl _) hc hs (fun j h9 => by cases h9) (fun _ _ => rfl) ?_
  show ab_E w (d + 1) mt_W_law 755 [.ref 34, .ref kx, .ref mx, .ref ox_out, .int v4, .int r3, .int r11] [.int r13] (I12, L5, ab_RR, n, nc7, ns8) res
  refine ab_iload (i := 5) d_W_law_755 rfl ?_
  refine ab_icmp_eq (tgt := 762) d_W_law_757 (by decide) (fun c14 => ?_) (fun c14 => ?_)
  · have h := h.1 c14
    refine ab_iload (i := 5) d_W_law_762 rfl ?_
    refine ab_if_ne (tgt := 779) d_W_law_764 (by decide) (fun c15 => ?_) (fun c15 => ?_)
    · have h := h.1 c15
      exact h
    · have h := h.2 c15
      refine ab_aload_n (i := 3) d_W_law_767 rfl rfl ?_
      refine ab_iconst (v := 0) d_W_law_768 rfl ?_
      refine ab_lald d_W_law_769 rfl rfl (by unfold vp_in; decide) ?_
      refine ab_iload (i := 6) d_W_law_770 rfl ?_
      refine ab_i2l d_W_law_772 ?_
      refine ab_lcmp d_W_law_773 ?_
      refine ab_if_eq (tgt := 779) d_W_law_774 (by decide) (fun c16 => ?_) (fun c16 => ?_)
      · have h := h.1 c16
        exact h
      · have h := h.2 c16
        refine ab_iconst (v := 0) d_W_law_777 rfl ?_
        exact ab_iret (ty := .boolean) d_W_law_778 rfl rfl h
  · have h := h.2 c14
    refine ab_iconst (v := 0) d_W_law_760 rfl ?_
    exact ab_iret (ty := .boolean) d_W_law_761 rfl rfl h
theorem q_W_law_779 {w : ab_Wd} {d n nc ns : Nat} {I : Nat → Nat → Int32} {L : Nat → Nat → Int64} {res : ab_Re} (v4 : Int32) (v5 : Int32) (v6 : Int32) (hc : nc ≤ res.2.2.2.2.2.1) (hs : ns ≤ res.2.2.2.2.2.2)
    (h : ab_E w (d + 1) mt_W_law 1658 [.ref 34, .ref kx, .ref mx, .ref ox_out, .int v4, .null, .null] [] (I, L, ab_RR, n, nc, ns) res) : ab_E w (d + 1) mt_W_law 779 [.ref 34, .ref kx, .ref mx, .ref ox_out, .int v4, .int v5, .int v6] [] (I, L, ab_RR, n, nc, ns) res := by
  refine ab_goto (tgt := 1658) d_W_law_779 (by decide) ?_
  refine ab_drop 5 ?_
  refine ab_drop 6 ?_
  exact h
theorem q_W_law_782 {w : ab_Wd} {d n nc ns : Nat} {I : Nat → Nat → Int32} {L : Nat → Nat → Int64} {res : ab_Re} (v4 : Int32) (hc : nc ≤ res.2.2.2.2.2.1) (hs : ns ≤ res.2.2.2.2.2.2)
    (h : (vp_in (v4 + 1) w.2.2.2.2.1) ∧ ∃ (r2 : Int32) (I3 : Nat → Nat → Int32) (L4 : Nat → Nat → Int64) (n5 nc6 ns7 : Nat), (ab_CH w d mt_W_share [.ref kx, .int (w.2.2.2.2.2.1 (v4 + 1).toNatClampNeg), .ref ox_out] (I, L, ab_RR, n, nc, ns) (.inl (some (.int r2)), (I3, L4, ab_RR, n5, nc6, ns7)) ∧ nc ≤ nc6 ∧ ns ≤ ns7 ∧ nc6 ≤ res.2.2.2.2.2.1 ∧ ns7 ≤ res.2.2.2.2.2.2) ∧ (vp_in (v4 + 1) w.2.2.2.2.1) ∧ ∃ (r9 : Int32) (I10 : Nat → Nat → Int32), ab_C w d mt_M_share [.ref mx, .int (w.2.2.2.2.2.1 (v4 + 1).toNatClampNeg)] (I3, L4, ab_RR, n, nc6, ns7) (.inl (some (.int r9)), (I10, L4, ab_RR, n, nc6, ns7)) ∧ ∃ (r11 : Int32), ab_C w d mt_M_thrown [.ref mx] (I10, L4, ab_RR, n, nc6, ns7) (.inl (some (.int r11)), (I10, L4, ab_RR, n, nc6, ns7)) ∧ ((r11 = r2 → ((¬ r2 = 0 → (ab_E w (d + 1) mt_W_law 835 [.ref 34, .ref kx, .ref mx, .ref ox_out, .int v4, .int r2, .int r9] [] (I10, L4, ab_RR, n, nc6, ns7) res)) ∧ (r2 = 0 → (((lg_cmp (L4 ox_out 0) (Int32.toInt64 r9)) = 0 → (ab_E w (d + 1) mt_W_law 835 [.ref 34, .ref kx, .ref mx, .ref ox_out, .int v4, .int r2, .int r9] [] (I10, L4, ab_RR, n, nc6, ns7) res)) ∧ (¬ (lg_cmp (L4 ox_out 0) (Int32.toInt64 r9)) = 0 → (res = (.inl (some (.int 0)), (I10, L4, ab_RR, n, nc6, ns7)))))))) ∧ (¬ r11 = r2 → (res = (.inl (some (.int 0)), (I10, L4, ab_RR, n, nc6, ns7)))))) : ab_E w (d + 1) mt_W_law 782 [.ref 34, .ref kx, .ref mx, .ref ox_out, .int v4, .null, .null] [] (I, L, ab_RR, n, nc, ns) res := by
  refine ab_aload_n (i := 1) d_W_law_782 rfl rfl ?_
  refine ab_aload_n (i := 0) d_W_law_783 rfl rfl ?_
  refine ab_iload (i := 4) d_W_law_784 rfl ?_
  refine ab_iconst (v := 1) d_W_law_786 rfl ?_
  refine ab_iadd d_W_law_787 ?_
  have g1 := h.1; have h := h.2
  refine ab_sald d_W_law_788 g1 ?_
  refine ab_aload_n (i := 3) d_W_law_789 rfl rfl ?_
  obtain ⟨r2, I3, L4, n5, nc6, ns7, ⟨hC, l1, l2, hc, hs⟩, h⟩ := h
  refine ab_callSH (me2 := mt_W_share) (as := [.ref kx, .int (w.2.2.2.2.2.1 (v4 + 1).toNatClampNeg), .ref ox_out]) (st := []) (rv := some (.int r2)) (M2 := (I3, L4, ab_RR, n5, nc6, ns7)) d_W_law_790 v_1189 v_139 ⟨by decide, by decide, (show (parseMethodDescriptor mt_W_share.1.desc).map (fun d => d.parameters.length) = some 3 from by decide +kernel)⟩ (by decide) v_1187 v_1188 (Nat.le_of_ble_eq_true rfl) hC l1 l2 hc hs (fun j h9 => by cases h9) (fun _ _ => rfl) ?_
  show ab_E w (d + 1) mt_W_law 793 [.ref 34, .ref kx, .ref mx, .ref ox_out, .int v4, .null, .null] [.int r2] (I3, L4, ab_RR, n, nc6, ns7) res
  refine ab_istore (i := 5) d_W_law_793 (by decide) (Or.inr rfl) ?_
  refine ab_aload_n (i := 2) d_W_law_795 rfl rfl ?_
  refine ab_aload_n (i := 0) d_W_law_796 rfl rfl ?_
  refine ab_iload (i := 4) d_W_law_797 rfl ?_
  refine ab_iconst (v := 1) d_W_law_799 rfl ?_
  refine ab_iadd d_W_law_800 ?_
  have g8 := h.1; have h := h.2
  refine ab_sald d_W_law_801 g8 ?_
  obtain ⟨r9, I10, hC, h⟩ := h
  refine ab_callV (me2 := mt_M_share) (b := mx) (as := [.int (w.2.2.2.2.2.1 (v4 + 1).toNatClampNeg)]) (st := []) (rv := (some (.int r9))) (M2 := (I10, L4, ab_RR, n, nc6, ns7)) d_W_law_802 ce_M_share v_1807 v_1808 v_1809 (by decide) rfl (Nat.le_of_ble_eq_true rfl) hC (Nat.le_refl _) (Nat.le_refl _) hc hs (fun j h9 => by cases h9) (fun _ _ => rfl) ?_
  show ab_E w (d + 1) mt_W_law 805 [.ref 34, .ref kx, .ref mx, .ref ox_out, .int v4, .int r2, .null] [.int r9] (I10, L4, ab_RR, n, nc6, ns7) res
  refine ab_istore (i := 6) d_W_law_805 (by decide) (Or.inr rfl) ?_
  refine ab_aload_n (i := 2) d_W_law_807 rfl rfl ?_
  obtain ⟨r11, hC, h⟩ := h
  refine ab_callV (me2 := mt_M_thrown) (b := mx) (as := []) (st := []) (rv := (some (.int r11))) (M2 := (I10, L4, ab_RR, n, nc6, ns7)) d_W_law_808 ce_M_thrown v_1550 v_1551 v_1552 (by decide) rfl (Nat.le_of_ble_eq_true rfl) hC (Nat.le_refl _) (Nat.le_refl _) hc hs (fun j h9 => by cases h9) (fun _ _ => rfl) ?_
  show ab_E w (d + 1) mt_W_law 811 [.ref 34, .ref kx, .ref mx, .ref ox_out, .int v4, .int r2, .int r9] [.int r11] (I10, L4, ab_RR, n, nc6, ns7) res
  refine ab_iload (i := 5) d_W_law_811 rfl ?_
  refine ab_icmp_eq (tgt := 818) d_W_law_813 (by decide) (fun c12 => ?_) (fun c12 => ?_)
  · have h := h.1 c12
    refine ab_iload (i := 5) d_W_law_818 rfl ?_
    refine ab_if_ne (tgt := 835) d_W_law_820 (by decide) (fun c13 => ?_) (fun c13 => ?_)
    · have h := h.1 c13
      exact h
    · have h := h.2 c13
      refine ab_aload_n (i := 3) d_W_law_823 rfl rfl ?_
      refine ab_iconst (v := 0) d_W_law_824 rfl ?_
      refine ab_lald d_W_law_825 rfl rfl (by unfold vp_in; decide) ?_
      refine ab_iload (i := 6) d_W_law_826 rfl ?_
      refine ab_i2l d_W_law_828 ?_
      refine ab_lcmp d_W_law_829 ?_
      refine ab_if_eq (tgt := 835) d_W_law_830 (by decide) (fun c14 => ?_) (fun c14 => ?_)
      · have h := h.1 c14
        exact h
      · have h := h.2 c14
        refine ab_iconst (v := 0) d_W_law_833 rfl ?_
        exact ab_iret (ty := .boolean) d_W_law_834 rfl rfl h
  · have h := h.2 c12
    refine ab_iconst (v := 0) d_W_law_816 rfl ?_
    exact ab_iret (ty := .boolean) d_W_law_817 rfl rfl h
theorem q_W_law_835 {w : ab_Wd} {d n nc ns : Nat} {I : Nat → Nat → Int32} {L : Nat → Nat → Int64} {res : ab_Re} (v4 : Int32) (v5 : Int32) (v6 : Int32) (hc : nc ≤ res.2.2.2.2.2.1) (hs : ns ≤ res.2.2.2.2.2.2)
    (h : ab_E w (d + 1) mt_W_law 1658 [.ref 34, .ref kx, .ref mx, .ref ox_out, .int v4, .null, .null] [] (I, L, ab_RR, n, nc, ns) res) : ab_E w (d + 1) mt_W_law 835 [.ref 34, .ref kx, .ref mx, .ref ox_out, .int v4, .int v5, .int v6] [] (I, L, ab_RR, n, nc, ns) res := by
  refine ab_goto (tgt := 1658) d_W_law_835 (by decide) ?_
  refine ab_drop 5 ?_
  refine ab_drop 6 ?_
  exact h
theorem q_W_law_838 {w : ab_Wd} {d n nc ns : Nat} {I : Nat → Nat → Int32} {L : Nat → Nat → Int64} {res : ab_Re} (v4 : Int32) (hc : nc ≤ res.2.2.2.2.2.1) (hs : ns ≤ res.2.2.2.2.2.2)
    (h : (vp_in (v4 + 1) w.2.2.2.2.1) ∧ (vp_in (v4 + 2) w.2.2.2.2.1) ∧ ∃ (r3 : Int32) (I4 : Nat → Nat → Int32) (L5 : Nat → Nat → Int64) (n6 nc7 ns8 : Nat), (ab_CH w d mt_W_group [.ref kx, .int (w.2.2.2.2.2.1 (v4 + 1).toNatClampNeg), .int (w.2.2.2.2.2.1 (v4 + 2).toNatClampNeg), .ref ox_out] (I, L, ab_RR, n, nc, ns) (.inl (some (.int r3)), (I4, L5, ab_RR, n6, nc7, ns8)) ∧ nc ≤ nc7 ∧ ns ≤ ns8 ∧ nc7 ≤ res.2.2.2.2.2.1 ∧ ns8 ≤ res.2.2.2.2.2.2) ∧ (vp_in (v4 + 1) w.2.2.2.2.1) ∧ (vp_in (v4 + 2) w.2.2.2.2.1) ∧ ∃ (r11 : Int32) (I12 : Nat → Nat → Int32), ab_C w d mt_M_group [.ref mx, .int (w.2.2.2.2.2.1 (v4 + 1).toNatClampNeg), .int (w.2.2.2.2.2.1 (v4 + 2).toNatClampNeg)] (I4, L5, ab_RR, n, nc7, ns8) (.inl (some (.int r11)), (I12, L5, ab_RR, n, nc7, ns8)) ∧ ∃ (r13 : Int32), ab_C w d mt_M_thrown [.ref mx] (I12, L5, ab_RR, n, nc7, ns8) (.inl (some (.int r13)), (I12, L5, ab_RR, n, nc7, ns8)) ∧ ((r13 = r3 → ((¬ r3 = 0 → (ab_E w (d + 1) mt_W_law 903 [.ref 34, .ref kx, .ref mx, .ref ox_out, .int v4, .int r3, .int r11] [] (I12, L5, ab_RR, n, nc7, ns8) res)) ∧ (r3 = 0 → (((lg_cmp (L5 ox_out 0) (Int32.toInt64 r11)) = 0 → (ab_E w (d + 1) mt_W_law 903 [.ref 34, .ref kx, .ref mx, .ref ox_out, .int v4, .int r3, .int r11] [] (I12, L5, ab_RR, n, nc7, ns8) res)) ∧ (¬ (lg_cmp (L5 ox_out 0) (Int32.toInt64 r11)) = 0 → (res = (.inl (some (.int 0)), (I12, L5, ab_RR, n, nc7, ns8)))))))) ∧ (¬ r13 = r3 → (res = (.inl (some (.int 0)), (I12, L5, ab_RR, n, nc7, ns8)))))) : ab_E w (d + 1) mt_W_law 838 [.ref 34, .ref kx, .ref mx, .ref ox_out, .int v4, .null, .null] [] (I, L, ab_RR, n, nc, ns) res := by
  refine ab_aload_n (i := 1) d_W_law_838 rfl rfl ?_
  refine ab_aload_n (i := 0) d_W_law_839 rfl rfl ?_
  refine ab_iload (i := 4) d_W_law_840 rfl ?_
  refine ab_iconst (v := 1) d_W_law_842 rfl ?_
  refine ab_iadd d_W_law_843 ?_
  have g1 := h.1; have h := h.2
  refine ab_sald d_W_law_844 g1 ?_
  refine ab_aload_n (i := 0) d_W_law_845 rfl rfl ?_
  refine ab_iload (i := 4) d_W_law_846 rfl ?_
  refine ab_iconst (v := 2) d_W_law_848 rfl ?_
  refine ab_iadd d_W_law_849 ?_
  have g2 := h.1; have h := h.2
  refine ab_sald d_W_law_850 g2 ?_
  refine ab_aload_n (i := 3) d_W_law_851 rfl rfl ?_
  obtain ⟨r3, I4, L5, n6, nc7, ns8, ⟨hC, l1, l2, hc, hs⟩, h⟩ := h
  refine ab_callSH (me2 := mt_W_group) (as := [.ref kx, .int (w.2.2.2.2.2.1 (v4 + 1).toNatClampNeg), .int (w.2.2.2.2.2.1 (v4 + 2).toNatClampNeg), .ref ox_out]) (st := []) (rv := some (.int r3)) (M2 := (I4, L5, ab_RR, n6, nc7, ns8)) d_W_law_852 v_1196 v_139 ⟨by decide, by decide, (show (parseMethodDescriptor mt_W_group.1.desc).map (fun d => d.parameters.length) = some 4 from by decide +kernel)⟩ (by decide) v_1194 v_1195 (Nat.le_of_ble_eq_true rfl) hC l1 l2 hc hs (fun j h9 => by cases h9) (fun _ _ => rfl) ?_
  show ab_E w (d + 1) mt_W_law 855 [.ref 34, .ref kx, .ref mx, .ref ox_out, .int v4, .null, .null] [.int r3] (I4, L5, ab_RR, n, nc7, ns8) res
  refine ab_istore (i := 5) d_W_law_855 (by decide) (Or.inr rfl) ?_
  refine ab_aload_n (i := 2) d_W_law_857 rfl rfl ?_
  refine ab_aload_n (i := 0) d_W_law_858 rfl rfl ?_
  refine ab_iload (i := 4) d_W_law_859 rfl ?_
  refine ab_iconst (v := 1) d_W_law_861 rfl ?_
  refine ab_iadd d_W_law_862 ?_
  have g9 := h.1; have h := h.2
  refine ab_sald d_W_law_863 g9 ?_
  refine ab_aload_n (i := 0) d_W_law_864 rfl rfl ?_
  refine ab_iload (i := 4) d_W_law_865 rfl ?_
  refine ab_iconst (v := 2) d_W_law_867 rfl ?_
  refine ab_iadd d_W_law_868 ?_
  have g10 := h.1; have h := h.2
  refine ab_sald d_W_law_869 g10 ?_
  obtain ⟨r11, I12, hC, h⟩ := h
  refine ab_callV (me2 := mt_M_group) (b := mx) (as := [.int (w.2.2.2.2.2.1 (v4 + 1).toNatClampNeg), .int (w.2.2.2.2.2.1 (v4 + 2).toNatClampNeg)]) (st := []) (rv := (some (.int r11))) (M2 := (I12, L5, ab_RR, n, nc7, ns8)) d_W_law_870 ce_M_group v_1811 v_1812 v_1813 (by decide) rfl (Nat.le_of_ble_eq_true rfl) hC (Nat.le_refl _) (Nat.le_refl _) hc hs (fun j h9 => by cases h9) (fun _ _ => rfl) ?_
  show ab_E w (d + 1) mt_W_law 873 [.ref 34, .ref kx, .ref mx, .ref ox_out, .int v4, .int r3, .null] [.int r11] (I12, L5, ab_RR, n, nc7, ns8) res
  refine ab_istore (i := 6) d_W_law_873 (by decide) (Or.inr rfl) ?_
  refine ab_aload_n (i := 2) d_W_law_875 rfl rfl ?_
  obtain ⟨r13, hC, h⟩ := h
  refine ab_callV (me2 := mt_M_thrown) (b := mx) (as := []) (st := []) (rv := (some (.int r13))) (M2 := (I12, L5, ab_RR, n, nc7, ns8)) d_W_law_876 ce_M_thrown v_1550 v_1551 v_1552 (by decide) rfl (Nat.le_of_ble_eq_true rfl) hC (Nat.le_refl _) (Nat.le_refl _) hc hs (fun j h9 => by cases h9) (fun _ _ => rfl) ?_
  show ab_E w (d + 1) mt_W_law 879 [.ref 34, .ref kx, .ref mx, .ref ox_out, .int v4, .int r3, .int r11] [.int r13] (I12, L5, ab_RR, n, nc7, ns8) res
  refine ab_iload (i := 5) d_W_law_879 rfl ?_
  refine ab_icmp_eq (tgt := 886) d_W_law_881 (by decide) (fun c14 => ?_) (fun c14 => ?_)
  · have h := h.1 c14
    refine ab_iload (i := 5) d_W_law_886 rfl ?_
    refine ab_if_ne (tgt := 903) d_W_law_888 (by decide) (fun c15 => ?_) (fun c15 => ?_)
    · have h := h.1 c15
      exact h
    · have h := h.2 c15
      refine ab_aload_n (i := 3) d_W_law_891 rfl rfl ?_
      refine ab_iconst (v := 0) d_W_law_892 rfl ?_
      refine ab_lald d_W_law_893 rfl rfl (by unfold vp_in; decide) ?_
      refine ab_iload (i := 6) d_W_law_894 rfl ?_
      refine ab_i2l d_W_law_896 ?_
      refine ab_lcmp d_W_law_897 ?_
      refine ab_if_eq (tgt := 903) d_W_law_898 (by decide) (fun c16 => ?_) (fun c16 => ?_)
      · have h := h.1 c16
        exact h
      · have h := h.2 c16
        refine ab_iconst (v := 0) d_W_law_901 rfl ?_
        exact ab_iret (ty := .boolean) d_W_law_902 rfl rfl h
  · have h := h.2 c14
    refine ab_iconst (v := 0) d_W_law_884 rfl ?_
    exact ab_iret (ty := .boolean) d_W_law_885 rfl rfl h
theorem q_W_law_903 {w : ab_Wd} {d n nc ns : Nat} {I : Nat → Nat → Int32} {L : Nat → Nat → Int64} {res : ab_Re} (v4 : Int32) (v5 : Int32) (v6 : Int32) (hc : nc ≤ res.2.2.2.2.2.1) (hs : ns ≤ res.2.2.2.2.2.2)
    (h : ab_E w (d + 1) mt_W_law 1658 [.ref 34, .ref kx, .ref mx, .ref ox_out, .int v4, .null, .null] [] (I, L, ab_RR, n, nc, ns) res) : ab_E w (d + 1) mt_W_law 903 [.ref 34, .ref kx, .ref mx, .ref ox_out, .int v4, .int v5, .int v6] [] (I, L, ab_RR, n, nc, ns) res := by
  refine ab_goto (tgt := 1658) d_W_law_903 (by decide) ?_
  refine ab_drop 5 ?_
  refine ab_drop 6 ?_
  exact h
theorem q_W_law_906 {w : ab_Wd} {d n nc ns : Nat} {I : Nat → Nat → Int32} {L : Nat → Nat → Int64} {res : ab_Re} (v4 : Int32) (hc : nc ≤ res.2.2.2.2.2.1) (hs : ns ≤ res.2.2.2.2.2.2)
    (h : (vp_in (v4 + 1) w.2.2.2.2.1) ∧ (vp_in (v4 + 2) w.2.2.2.2.1) ∧ ∃ (r3 : Int32) (I4 : Nat → Nat → Int32) (L5 : Nat → Nat → Int64) (n6 nc7 ns8 : Nat), (ab_CH w d mt_W_without [.ref kx, .int (w.2.2.2.2.2.1 (v4 + 1).toNatClampNeg), .int (w.2.2.2.2.2.1 (v4 + 2).toNatClampNeg), .ref ox_out] (I, L, ab_RR, n, nc, ns) (.inl (some (.int r3)), (I4, L5, ab_RR, n6, nc7, ns8)) ∧ nc ≤ nc7 ∧ ns ≤ ns8 ∧ nc7 ≤ res.2.2.2.2.2.1 ∧ ns8 ≤ res.2.2.2.2.2.2) ∧ (vp_in (v4 + 1) w.2.2.2.2.1) ∧ (vp_in (v4 + 2) w.2.2.2.2.1) ∧ ∃ (r11 : Int32) (I12 : Nat → Nat → Int32), ab_C w d mt_M_without [.ref mx, .int (w.2.2.2.2.2.1 (v4 + 1).toNatClampNeg), .int (w.2.2.2.2.2.1 (v4 + 2).toNatClampNeg)] (I4, L5, ab_RR, n, nc7, ns8) (.inl (some (.int r11)), (I12, L5, ab_RR, n, nc7, ns8)) ∧ ∃ (r13 : Int32), ab_C w d mt_M_thrown [.ref mx] (I12, L5, ab_RR, n, nc7, ns8) (.inl (some (.int r13)), (I12, L5, ab_RR, n, nc7, ns8)) ∧ ((r13 = r3 → ((¬ r3 = 0 → (ab_E w (d + 1) mt_W_law 971 [.ref 34, .ref kx, .ref mx, .ref ox_out, .int v4, .int r3, .int r11] [] (I12, L5, ab_RR, n, nc7, ns8) res)) ∧ (r3 = 0 → (((lg_cmp (L5 ox_out 0) (Int32.toInt64 r11)) = 0 → (ab_E w (d + 1) mt_W_law 971 [.ref 34, .ref kx, .ref mx, .ref ox_out, .int v4, .int r3, .int r11] [] (I12, L5, ab_RR, n, nc7, ns8) res)) ∧ (¬ (lg_cmp (L5 ox_out 0) (Int32.toInt64 r11)) = 0 → (res = (.inl (some (.int 0)), (I12, L5, ab_RR, n, nc7, ns8)))))))) ∧ (¬ r13 = r3 → (res = (.inl (some (.int 0)), (I12, L5, ab_RR, n, nc7, ns8)))))) : ab_E w (d + 1) mt_W_law 906 [.ref 34, .ref kx, .ref mx, .ref ox_out, .int v4, .null, .null] [] (I, L, ab_RR, n, nc, ns) res := by
  refine ab_aload_n (i := 1) d_W_law_906 rfl rfl ?_
  refine ab_aload_n (i := 0) d_W_law_907 rfl rfl ?_
  refine ab_iload (i := 4) d_W_law_908 rfl ?_
  refine ab_iconst (v := 1) d_W_law_910 rfl ?_
  refine ab_iadd d_W_law_911 ?_
  have g1 := h.1; have h := h.2
  refine ab_sald d_W_law_912 g1 ?_
  refine ab_aload_n (i := 0) d_W_law_913 rfl rfl ?_
  refine ab_iload (i := 4) d_W_law_914 rfl ?_
  refine ab_iconst (v := 2) d_W_law_916 rfl ?_
  refine ab_iadd d_W_law_917 ?_
  have g2 := h.1; have h := h.2
  refine ab_sald d_W_law_918 g2 ?_
  refine ab_aload_n (i := 3) d_W_law_919 rfl rfl ?_
  obtain ⟨r3, I4, L5, n6, nc7, ns8, ⟨hC, l1, l2, hc, hs⟩, h⟩ := h
  refine ab_callSH (me2 := mt_W_without) (as := [.ref kx, .int (w.2.2.2.2.2.1 (v4 + 1).toNatClampNeg), .int (w.2.2.2.2.2.1 (v4 + 2).toNatClampNeg), .ref ox_out]) (st := []) (rv := some (.int r3)) (M2 := (I4, L5, ab_RR, n6, nc7, ns8)) d_W_law_920 v_1207 v_139 ⟨by decide, by decide, (show (parseMethodDescriptor mt_W_without.1.desc).map (fun d => d.parameters.length) = some 4 from by decide +kernel)⟩ (by decide) v_1205 v_1206 (Nat.le_of_ble_eq_true rfl) hC l1 l2 hc hs (fun j h9 => by cases h9) (fun _ _ => rfl) ?_
  show ab_E w (d + 1) mt_W_law 923 [.ref 34, .ref kx, .ref mx, .ref ox_out, .int v4, .null, .null] [.int r3] (I4, L5, ab_RR, n, nc7, ns8) res
  refine ab_istore (i := 5) d_W_law_923 (by decide) (Or.inr rfl) ?_
  refine ab_aload_n (i := 2) d_W_law_925 rfl rfl ?_
  refine ab_aload_n (i := 0) d_W_law_926 rfl rfl ?_
  refine ab_iload (i := 4) d_W_law_927 rfl ?_
  refine ab_iconst (v := 1) d_W_law_929 rfl ?_
  refine ab_iadd d_W_law_930 ?_
  have g9 := h.1; have h := h.2
  refine ab_sald d_W_law_931 g9 ?_
  refine ab_aload_n (i := 0) d_W_law_932 rfl rfl ?_
  refine ab_iload (i := 4) d_W_law_933 rfl ?_
  refine ab_iconst (v := 2) d_W_law_935 rfl ?_
  refine ab_iadd d_W_law_936 ?_
  have g10 := h.1; have h := h.2
  refine ab_sald d_W_law_937 g10 ?_
  obtain ⟨r11, I12, hC, h⟩ := h
  refine ab_callV (me2 := mt_M_without) (b := mx) (as := [.int (w.2.2.2.2.2.1 (v4 + 1).toNatClampNeg), .int (w.2.2.2.2.2.1 (v4 + 2).toNatClampNeg)]) (st := []) (rv := (some (.int r11))) (M2 := (I12, L5, ab_RR, n, nc7, ns8)) d_W_law_938 ce_M_without v_1819 v_1820 v_1821 (by decide) rfl (Nat.le_of_ble_eq_true rfl) hC (Nat.le_refl _) (Nat.le_refl _) hc hs (fun j h9 => by cases h9) (fun _ _ => rfl) ?_
  show ab_E w (d + 1) mt_W_law 941 [.ref 34, .ref kx, .ref mx, .ref ox_out, .int v4, .int r3, .null] [.int r11] (I12, L5, ab_RR, n, nc7, ns8) res
  refine ab_istore (i := 6) d_W_law_941 (by decide) (Or.inr rfl) ?_
  refine ab_aload_n (i := 2) d_W_law_943 rfl rfl ?_
  obtain ⟨r13, hC, h⟩ := h
  refine ab_callV (me2 := mt_M_thrown) (b := mx) (as := []) (st := []) (rv := (some (.int r13))) (M2 := (I12, L5, ab_RR, n, nc7, ns8)) d_W_law_944 ce_M_thrown v_1550 v_1551 v_1552 (by decide) rfl (Nat.le_of_ble_eq_true rfl) hC (Nat.le_refl _) (Nat.le_refl _) hc hs (fun j h9 => by cases h9) (fun _ _ => rfl) ?_
  show ab_E w (d + 1) mt_W_law 947 [.ref 34, .ref kx, .ref mx, .ref ox_out, .int v4, .int r3, .int r11] [.int r13] (I12, L5, ab_RR, n, nc7, ns8) res
  refine ab_iload (i := 5) d_W_law_947 rfl ?_
  refine ab_icmp_eq (tgt := 954) d_W_law_949 (by decide) (fun c14 => ?_) (fun c14 => ?_)
  · have h := h.1 c14
    refine ab_iload (i := 5) d_W_law_954 rfl ?_
    refine ab_if_ne (tgt := 971) d_W_law_956 (by decide) (fun c15 => ?_) (fun c15 => ?_)
    · have h := h.1 c15
      exact h
    · have h := h.2 c15
      refine ab_aload_n (i := 3) d_W_law_959 rfl rfl ?_
      refine ab_iconst (v := 0) d_W_law_960 rfl ?_
      refine ab_lald d_W_law_961 rfl rfl (by unfold vp_in; decide) ?_
      refine ab_iload (i := 6) d_W_law_962 rfl ?_
      refine ab_i2l d_W_law_964 ?_
      refine ab_lcmp d_W_law_965 ?_
      refine ab_if_eq (tgt := 971) d_W_law_966 (by decide) (fun c16 => ?_) (fun c16 => ?_)
      · have h := h.1 c16
        exact h
      · have h := h.2 c16
        refine ab_iconst (v := 0) d_W_law_969 rfl ?_
        exact ab_iret (ty := .boolean) d_W_law_970 rfl rfl h
  · have h := h.2 c14
    refine ab_iconst (v := 0) d_W_law_952 rfl ?_
    exact ab_iret (ty := .boolean) d_W_law_953 rfl rfl h
theorem q_W_law_971 {w : ab_Wd} {d n nc ns : Nat} {I : Nat → Nat → Int32} {L : Nat → Nat → Int64} {res : ab_Re} (v4 : Int32) (v5 : Int32) (v6 : Int32) (hc : nc ≤ res.2.2.2.2.2.1) (hs : ns ≤ res.2.2.2.2.2.2)
    (h : ab_E w (d + 1) mt_W_law 1658 [.ref 34, .ref kx, .ref mx, .ref ox_out, .int v4, .null, .null] [] (I, L, ab_RR, n, nc, ns) res) : ab_E w (d + 1) mt_W_law 971 [.ref 34, .ref kx, .ref mx, .ref ox_out, .int v4, .int v5, .int v6] [] (I, L, ab_RR, n, nc, ns) res := by
  refine ab_goto (tgt := 1658) d_W_law_971 (by decide) ?_
  refine ab_drop 5 ?_
  refine ab_drop 6 ?_
  exact h
theorem q_W_law_974 {w : ab_Wd} {d n nc ns : Nat} {I : Nat → Nat → Int32} {L : Nat → Nat → Int64} {res : ab_Re} (v4 : Int32) (hc : nc ≤ res.2.2.2.2.2.1) (hs : ns ≤ res.2.2.2.2.2.2)
    (h : ∃ (r1 : Int64) (I2 : Nat → Nat → Int32) (L3 : Nat → Nat → Int64), ab_C w d mt_K_alike [.ref kx] (I, L, ab_RR, n, nc, ns) (.inl (some (.long r1)), (I2, L3, ab_RR, n, nc, ns)) ∧ ∃ (r4 : Int64) (I5 : Nat → Nat → Int32) (L6 : Nat → Nat → Int64), ab_C w d mt_M_alike [.ref mx] (I2, L3, ab_RR, n, nc, ns) (.inl (some (.long r4)), (I5, L6, ab_RR, n, nc, ns)) ∧ (((lg_cmp r1 r4) = 0 → (ab_E w (d + 1) mt_W_law 1658 [.ref 34, .ref kx, .ref mx, .ref ox_out, .int v4, .null, .null] [] (I5, L6, ab_RR, n, nc, ns) res)) ∧ (¬ (lg_cmp r1 r4) = 0 → (res = (.inl (some (.int 0)), (I5, L6, ab_RR, n, nc, ns)))))) : ab_E w (d + 1) mt_W_law 974 [.ref 34, .ref kx, .ref mx, .ref ox_out, .int v4, .null, .null] [] (I, L, ab_RR, n, nc, ns) res := by
  refine ab_aload_n (i := 1) d_W_law_974 rfl rfl ?_
  obtain ⟨r1, I2, L3, hC, h⟩ := h
  refine ab_callV (me2 := mt_K_alike) (b := kx) (as := []) (st := []) (rv := (some (.long r1))) (M2 := (I2, L3, ab_RR, n, nc, ns)) d_W_law_975 ce_K_alike v_527 v_528 v_529 (by decide) rfl (Nat.le_of_ble_eq_true rfl) hC (Nat.le_refl _) (Nat.le_refl _) hc hs (fun j h9 => by cases h9) (fun _ _ => rfl) ?_
  show ab_E w (d + 1) mt_W_law 978 [.ref 34, .ref kx, .ref mx, .ref ox_out, .int v4, .null, .null] [.long r1] (I2, L3, ab_RR, n, nc, ns) res
  refine ab_aload_n (i := 2) d_W_law_978 rfl rfl ?_
  obtain ⟨r4, I5, L6, hC, h⟩ := h
  refine ab_callV (me2 := mt_M_alike) (b := mx) (as := []) (st := [.long r1]) (rv := (some (.long r4))) (M2 := (I5, L6, ab_RR, n, nc, ns)) d_W_law_979 ce_M_alike v_1823 v_1824 v_1825 (by decide) rfl (Nat.le_of_ble_eq_true rfl) hC (Nat.le_refl _) (Nat.le_refl _) hc hs (fun j h9 => by cases h9) (fun _ _ => rfl) ?_
  show ab_E w (d + 1) mt_W_law 982 [.ref 34, .ref kx, .ref mx, .ref ox_out, .int v4, .null, .null] [.long r4, .long r1] (I5, L6, ab_RR, n, nc, ns) res
  refine ab_lcmp d_W_law_982 ?_
  refine ab_if_eq (tgt := 1658) d_W_law_983 (by decide) (fun c7 => ?_) (fun c7 => ?_)
  · have h := h.1 c7
    exact h
  · have h := h.2 c7
    refine ab_iconst (v := 0) d_W_law_986 rfl ?_
    exact ab_iret (ty := .boolean) d_W_law_987 rfl rfl h
theorem q_W_law_988 {w : ab_Wd} {d n nc ns : Nat} {I : Nat → Nat → Int32} {L : Nat → Nat → Int64} {res : ab_Re} (v4 : Int32) (hc : nc ≤ res.2.2.2.2.2.1) (hs : ns ≤ res.2.2.2.2.2.2)
    (h : (vp_in (v4 + 1) w.2.2.2.2.1) ∧ ∃ (r2 : Int32) (I3 : Nat → Nat → Int32) (L4 : Nat → Nat → Int64) (n5 nc6 ns7 : Nat), (ab_CH w d mt_W_told [.ref kx, .int (w.2.2.2.2.2.1 (v4 + 1).toNatClampNeg), .ref ox_out] (I, L, ab_RR, n, nc, ns) (.inl (some (.int r2)), (I3, L4, ab_RR, n5, nc6, ns7)) ∧ nc ≤ nc6 ∧ ns ≤ ns7 ∧ nc6 ≤ res.2.2.2.2.2.1 ∧ ns7 ≤ res.2.2.2.2.2.2) ∧ (vp_in (v4 + 1) w.2.2.2.2.1) ∧ ∃ (r9 : Int32) (I10 : Nat → Nat → Int32), ab_C w d mt_M_told [.ref mx, .int (w.2.2.2.2.2.1 (v4 + 1).toNatClampNeg)] (I3, L4, ab_RR, n, nc6, ns7) (.inl (some (.int r9)), (I10, L4, ab_RR, n, nc6, ns7)) ∧ ∃ (r11 : Int32), ab_C w d mt_M_thrown [.ref mx] (I10, L4, ab_RR, n, nc6, ns7) (.inl (some (.int r11)), (I10, L4, ab_RR, n, nc6, ns7)) ∧ ((r11 = r2 → ((¬ r2 = 0 → (ab_E w (d + 1) mt_W_law 1041 [.ref 34, .ref kx, .ref mx, .ref ox_out, .int v4, .int r2, .int r9] [] (I10, L4, ab_RR, n, nc6, ns7) res)) ∧ (r2 = 0 → (((lg_cmp (L4 ox_out 0) (Int32.toInt64 r9)) = 0 → (ab_E w (d + 1) mt_W_law 1041 [.ref 34, .ref kx, .ref mx, .ref ox_out, .int v4, .int r2, .int r9] [] (I10, L4, ab_RR, n, nc6, ns7) res)) ∧ (¬ (lg_cmp (L4 ox_out 0) (Int32.toInt64 r9)) = 0 → (res = (.inl (some (.int 0)), (I10, L4, ab_RR, n, nc6, ns7)))))))) ∧ (¬ r11 = r2 → (res = (.inl (some (.int 0)), (I10, L4, ab_RR, n, nc6, ns7)))))) : ab_E w (d + 1) mt_W_law 988 [.ref 34, .ref kx, .ref mx, .ref ox_out, .int v4, .null, .null] [] (I, L, ab_RR, n, nc, ns) res := by
  refine ab_aload_n (i := 1) d_W_law_988 rfl rfl ?_
  refine ab_aload_n (i := 0) d_W_law_989 rfl rfl ?_
  refine ab_iload (i := 4) d_W_law_990 rfl ?_
  refine ab_iconst (v := 1) d_W_law_992 rfl ?_
  refine ab_iadd d_W_law_993 ?_
  have g1 := h.1; have h := h.2
  refine ab_sald d_W_law_994 g1 ?_
  refine ab_aload_n (i := 3) d_W_law_995 rfl rfl ?_
  obtain ⟨r2, I3, L4, n5, nc6, ns7, ⟨hC, l1, l2, hc, hs⟩, h⟩ := h
  refine ab_callSH (me2 := mt_W_told) (as := [.ref kx, .int (w.2.2.2.2.2.1 (v4 + 1).toNatClampNeg), .ref ox_out]) (st := []) (rv := some (.int r2)) (M2 := (I3, L4, ab_RR, n5, nc6, ns7)) d_W_law_996 v_1214 v_139 ⟨by decide, by decide, (show (parseMethodDescriptor mt_W_told.1.desc).map (fun d => d.parameters.length) = some 3 from by decide +kernel)⟩ (by decide) v_1212 v_1213 (Nat.le_of_ble_eq_true rfl) hC l1 l2 hc hs (fun j h9 => by cases h9) (fun _ _ => rfl) ?_
  show ab_E w (d + 1) mt_W_law 999 [.ref 34, .ref kx, .ref mx, .ref ox_out, .int v4, .null, .null] [.int r2] (I3, L4, ab_RR, n, nc6, ns7) res
  refine ab_istore (i := 5) d_W_law_999 (by decide) (Or.inr rfl) ?_
  refine ab_aload_n (i := 2) d_W_law_1001 rfl rfl ?_
  refine ab_aload_n (i := 0) d_W_law_1002 rfl rfl ?_
  refine ab_iload (i := 4) d_W_law_1003 rfl ?_
  refine ab_iconst (v := 1) d_W_law_1005 rfl ?_
  refine ab_iadd d_W_law_1006 ?_
  have g8 := h.1; have h := h.2
  refine ab_sald d_W_law_1007 g8 ?_
  obtain ⟨r9, I10, hC, h⟩ := h
  refine ab_callV (me2 := mt_M_told) (b := mx) (as := [.int (w.2.2.2.2.2.1 (v4 + 1).toNatClampNeg)]) (st := []) (rv := (some (.int r9))) (M2 := (I10, L4, ab_RR, n, nc6, ns7)) d_W_law_1008 ce_M_told v_1840 v_1841 v_1842 (by decide) rfl (Nat.le_of_ble_eq_true rfl) hC (Nat.le_refl _) (Nat.le_refl _) hc hs (fun j h9 => by cases h9) (fun _ _ => rfl) ?_
  show ab_E w (d + 1) mt_W_law 1011 [.ref 34, .ref kx, .ref mx, .ref ox_out, .int v4, .int r2, .null] [.int r9] (I10, L4, ab_RR, n, nc6, ns7) res
  refine ab_istore (i := 6) d_W_law_1011 (by decide) (Or.inr rfl) ?_
  refine ab_aload_n (i := 2) d_W_law_1013 rfl rfl ?_
  obtain ⟨r11, hC, h⟩ := h
  refine ab_callV (me2 := mt_M_thrown) (b := mx) (as := []) (st := []) (rv := (some (.int r11))) (M2 := (I10, L4, ab_RR, n, nc6, ns7)) d_W_law_1014 ce_M_thrown v_1550 v_1551 v_1552 (by decide) rfl (Nat.le_of_ble_eq_true rfl) hC (Nat.le_refl _) (Nat.le_refl _) hc hs (fun j h9 => by cases h9) (fun _ _ => rfl) ?_
  show ab_E w (d + 1) mt_W_law 1017 [.ref 34, .ref kx, .ref mx, .ref ox_out, .int v4, .int r2, .int r9] [.int r11] (I10, L4, ab_RR, n, nc6, ns7) res
  refine ab_iload (i := 5) d_W_law_1017 rfl ?_
  refine ab_icmp_eq (tgt := 1024) d_W_law_1019 (by decide) (fun c12 => ?_) (fun c12 => ?_)
  · have h := h.1 c12
    refine ab_iload (i := 5) d_W_law_1024 rfl ?_
    refine ab_if_ne (tgt := 1041) d_W_law_1026 (by decide) (fun c13 => ?_) (fun c13 => ?_)
    · have h := h.1 c13
      exact h
    · have h := h.2 c13
      refine ab_aload_n (i := 3) d_W_law_1029 rfl rfl ?_
      refine ab_iconst (v := 0) d_W_law_1030 rfl ?_
      refine ab_lald d_W_law_1031 rfl rfl (by unfold vp_in; decide) ?_
      refine ab_iload (i := 6) d_W_law_1032 rfl ?_
      refine ab_i2l d_W_law_1034 ?_
      refine ab_lcmp d_W_law_1035 ?_
      refine ab_if_eq (tgt := 1041) d_W_law_1036 (by decide) (fun c14 => ?_) (fun c14 => ?_)
      · have h := h.1 c14
        exact h
      · have h := h.2 c14
        refine ab_iconst (v := 0) d_W_law_1039 rfl ?_
        exact ab_iret (ty := .boolean) d_W_law_1040 rfl rfl h
  · have h := h.2 c12
    refine ab_iconst (v := 0) d_W_law_1022 rfl ?_
    exact ab_iret (ty := .boolean) d_W_law_1023 rfl rfl h
theorem q_W_law_1041 {w : ab_Wd} {d n nc ns : Nat} {I : Nat → Nat → Int32} {L : Nat → Nat → Int64} {res : ab_Re} (v4 : Int32) (v5 : Int32) (v6 : Int32) (hc : nc ≤ res.2.2.2.2.2.1) (hs : ns ≤ res.2.2.2.2.2.2)
    (h : ab_E w (d + 1) mt_W_law 1658 [.ref 34, .ref kx, .ref mx, .ref ox_out, .int v4, .null, .null] [] (I, L, ab_RR, n, nc, ns) res) : ab_E w (d + 1) mt_W_law 1041 [.ref 34, .ref kx, .ref mx, .ref ox_out, .int v4, .int v5, .int v6] [] (I, L, ab_RR, n, nc, ns) res := by
  refine ab_goto (tgt := 1658) d_W_law_1041 (by decide) ?_
  refine ab_drop 5 ?_
  refine ab_drop 6 ?_
  exact h
theorem q_W_law_1044 {w : ab_Wd} {d n nc ns : Nat} {I : Nat → Nat → Int32} {L : Nat → Nat → Int64} {res : ab_Re} (v4 : Int32) (hc : nc ≤ res.2.2.2.2.2.1) (hs : ns ≤ res.2.2.2.2.2.2)
    (h : (vp_in (v4 + 1) w.2.2.2.2.1) ∧ ∃ (r2 : Int32) (I3 : Nat → Nat → Int32) (L4 : Nat → Nat → Int64) (n5 nc6 ns7 : Nat), (ab_CH w d mt_W_joined [.ref kx, .int (w.2.2.2.2.2.1 (v4 + 1).toNatClampNeg), .ref ox_out] (I, L, ab_RR, n, nc, ns) (.inl (some (.int r2)), (I3, L4, ab_RR, n5, nc6, ns7)) ∧ nc ≤ nc6 ∧ ns ≤ ns7 ∧ nc6 ≤ res.2.2.2.2.2.1 ∧ ns7 ≤ res.2.2.2.2.2.2) ∧ (vp_in (v4 + 1) w.2.2.2.2.1) ∧ ∃ (r9 : Int32) (I10 : Nat → Nat → Int32), ab_C w d mt_M_joined [.ref mx, .int (w.2.2.2.2.2.1 (v4 + 1).toNatClampNeg)] (I3, L4, ab_RR, n, nc6, ns7) (.inl (some (.int r9)), (I10, L4, ab_RR, n, nc6, ns7)) ∧ ∃ (r11 : Int32), ab_C w d mt_M_thrown [.ref mx] (I10, L4, ab_RR, n, nc6, ns7) (.inl (some (.int r11)), (I10, L4, ab_RR, n, nc6, ns7)) ∧ ((r11 = r2 → ((¬ r2 = 0 → (ab_E w (d + 1) mt_W_law 1097 [.ref 34, .ref kx, .ref mx, .ref ox_out, .int v4, .int r2, .int r9] [] (I10, L4, ab_RR, n, nc6, ns7) res)) ∧ (r2 = 0 → (((lg_cmp (L4 ox_out 0) (Int32.toInt64 r9)) = 0 → (ab_E w (d + 1) mt_W_law 1097 [.ref 34, .ref kx, .ref mx, .ref ox_out, .int v4, .int r2, .int r9] [] (I10, L4, ab_RR, n, nc6, ns7) res)) ∧ (¬ (lg_cmp (L4 ox_out 0) (Int32.toInt64 r9)) = 0 → (res = (.inl (some (.int 0)), (I10, L4, ab_RR, n, nc6, ns7)))))))) ∧ (¬ r11 = r2 → (res = (.inl (some (.int 0)), (I10, L4, ab_RR, n, nc6, ns7)))))) : ab_E w (d + 1) mt_W_law 1044 [.ref 34, .ref kx, .ref mx, .ref ox_out, .int v4, .null, .null] [] (I, L, ab_RR, n, nc, ns) res := by
  refine ab_aload_n (i := 1) d_W_law_1044 rfl rfl ?_
  refine ab_aload_n (i := 0) d_W_law_1045 rfl rfl ?_
  refine ab_iload (i := 4) d_W_law_1046 rfl ?_
  refine ab_iconst (v := 1) d_W_law_1048 rfl ?_
  refine ab_iadd d_W_law_1049 ?_
  have g1 := h.1; have h := h.2
  refine ab_sald d_W_law_1050 g1 ?_
  refine ab_aload_n (i := 3) d_W_law_1051 rfl rfl ?_
  obtain ⟨r2, I3, L4, n5, nc6, ns7, ⟨hC, l1, l2, hc, hs⟩, h⟩ := h
  refine ab_callSH (me2 := mt_W_joined) (as := [.ref kx, .int (w.2.2.2.2.2.1 (v4 + 1).toNatClampNeg), .ref ox_out]) (st := []) (rv := some (.int r2)) (M2 := (I3, L4, ab_RR, n5, nc6, ns7)) d_W_law_1052 v_1245 v_139 ⟨by decide, by decide, (show (parseMethodDescriptor mt_W_joined.1.desc).map (fun d => d.parameters.length) = some 3 from by decide +kernel)⟩ (by decide) v_1243 v_1244 (Nat.le_of_ble_eq_true rfl) hC l1 l2 hc hs (fun j h9 => by cases h9) (fun _ _ => rfl) ?_
  show ab_E w (d + 1) mt_W_law 1055 [.ref 34, .ref kx, .ref mx, .ref ox_out, .int v4, .null, .null] [.int r2] (I3, L4, ab_RR, n, nc6, ns7) res
  refine ab_istore (i := 5) d_W_law_1055 (by decide) (Or.inr rfl) ?_
  refine ab_aload_n (i := 2) d_W_law_1057 rfl rfl ?_
  refine ab_aload_n (i := 0) d_W_law_1058 rfl rfl ?_
  refine ab_iload (i := 4) d_W_law_1059 rfl ?_
  refine ab_iconst (v := 1) d_W_law_1061 rfl ?_
  refine ab_iadd d_W_law_1062 ?_
  have g8 := h.1; have h := h.2
  refine ab_sald d_W_law_1063 g8 ?_
  obtain ⟨r9, I10, hC, h⟩ := h
  refine ab_callV (me2 := mt_M_joined) (b := mx) (as := [.int (w.2.2.2.2.2.1 (v4 + 1).toNatClampNeg)]) (st := []) (rv := (some (.int r9))) (M2 := (I10, L4, ab_RR, n, nc6, ns7)) d_W_law_1064 ce_M_joined v_1875 v_1876 v_1877 (by decide) rfl (Nat.le_of_ble_eq_true rfl) hC (Nat.le_refl _) (Nat.le_refl _) hc hs (fun j h9 => by cases h9) (fun _ _ => rfl) ?_
  show ab_E w (d + 1) mt_W_law 1067 [.ref 34, .ref kx, .ref mx, .ref ox_out, .int v4, .int r2, .null] [.int r9] (I10, L4, ab_RR, n, nc6, ns7) res
  refine ab_istore (i := 6) d_W_law_1067 (by decide) (Or.inr rfl) ?_
  refine ab_aload_n (i := 2) d_W_law_1069 rfl rfl ?_
  obtain ⟨r11, hC, h⟩ := h
  refine ab_callV (me2 := mt_M_thrown) (b := mx) (as := []) (st := []) (rv := (some (.int r11))) (M2 := (I10, L4, ab_RR, n, nc6, ns7)) d_W_law_1070 ce_M_thrown v_1550 v_1551 v_1552 (by decide) rfl (Nat.le_of_ble_eq_true rfl) hC (Nat.le_refl _) (Nat.le_refl _) hc hs (fun j h9 => by cases h9) (fun _ _ => rfl) ?_
  show ab_E w (d + 1) mt_W_law 1073 [.ref 34, .ref kx, .ref mx, .ref ox_out, .int v4, .int r2, .int r9] [.int r11] (I10, L4, ab_RR, n, nc6, ns7) res
  refine ab_iload (i := 5) d_W_law_1073 rfl ?_
  refine ab_icmp_eq (tgt := 1080) d_W_law_1075 (by decide) (fun c12 => ?_) (fun c12 => ?_)
  · have h := h.1 c12
    refine ab_iload (i := 5) d_W_law_1080 rfl ?_
    refine ab_if_ne (tgt := 1097) d_W_law_1082 (by decide) (fun c13 => ?_) (fun c13 => ?_)
    · have h := h.1 c13
      exact h
    · have h := h.2 c13
      refine ab_aload_n (i := 3) d_W_law_1085 rfl rfl ?_
      refine ab_iconst (v := 0) d_W_law_1086 rfl ?_
      refine ab_lald d_W_law_1087 rfl rfl (by unfold vp_in; decide) ?_
      refine ab_iload (i := 6) d_W_law_1088 rfl ?_
      refine ab_i2l d_W_law_1090 ?_
      refine ab_lcmp d_W_law_1091 ?_
      refine ab_if_eq (tgt := 1097) d_W_law_1092 (by decide) (fun c14 => ?_) (fun c14 => ?_)
      · have h := h.1 c14
        exact h
      · have h := h.2 c14
        refine ab_iconst (v := 0) d_W_law_1095 rfl ?_
        exact ab_iret (ty := .boolean) d_W_law_1096 rfl rfl h
  · have h := h.2 c12
    refine ab_iconst (v := 0) d_W_law_1078 rfl ?_
    exact ab_iret (ty := .boolean) d_W_law_1079 rfl rfl h
theorem q_W_law_1097 {w : ab_Wd} {d n nc ns : Nat} {I : Nat → Nat → Int32} {L : Nat → Nat → Int64} {res : ab_Re} (v4 : Int32) (v5 : Int32) (v6 : Int32) (hc : nc ≤ res.2.2.2.2.2.1) (hs : ns ≤ res.2.2.2.2.2.2)
    (h : ab_E w (d + 1) mt_W_law 1658 [.ref 34, .ref kx, .ref mx, .ref ox_out, .int v4, .null, .null] [] (I, L, ab_RR, n, nc, ns) res) : ab_E w (d + 1) mt_W_law 1097 [.ref 34, .ref kx, .ref mx, .ref ox_out, .int v4, .int v5, .int v6] [] (I, L, ab_RR, n, nc, ns) res := by
  refine ab_goto (tgt := 1658) d_W_law_1097 (by decide) ?_
  refine ab_drop 5 ?_
  refine ab_drop 6 ?_
  exact h
theorem q_W_law_1100 {w : ab_Wd} {d n nc ns : Nat} {I : Nat → Nat → Int32} {L : Nat → Nat → Int64} {res : ab_Re} (v4 : Int32) (hc : nc ≤ res.2.2.2.2.2.1) (hs : ns ≤ res.2.2.2.2.2.2)
    (h : (vp_in (v4 + 1) w.2.2.2.2.1) ∧ (vp_in (v4 + 2) w.2.2.2.2.1) ∧ ∃ (r3 : Int32) (I4 : Nat → Nat → Int32) (L5 : Nat → Nat → Int64) (n6 nc7 ns8 : Nat), (ab_CH w d mt_W_swap [.ref kx, .int (w.2.2.2.2.2.1 (v4 + 1).toNatClampNeg), .int (w.2.2.2.2.2.1 (v4 + 2).toNatClampNeg), .ref ox_out] (I, L, ab_RR, n, nc, ns) (.inl (some (.int r3)), (I4, L5, ab_RR, n6, nc7, ns8)) ∧ nc ≤ nc7 ∧ ns ≤ ns8 ∧ nc7 ≤ res.2.2.2.2.2.1 ∧ ns8 ≤ res.2.2.2.2.2.2) ∧ (vp_in (v4 + 1) w.2.2.2.2.1) ∧ (vp_in (v4 + 2) w.2.2.2.2.1) ∧ ∃ (r11 : Int32) (I12 : Nat → Nat → Int32), ab_C w d mt_M_swap [.ref mx, .int (w.2.2.2.2.2.1 (v4 + 1).toNatClampNeg), .int (w.2.2.2.2.2.1 (v4 + 2).toNatClampNeg)] (I4, L5, ab_RR, n, nc7, ns8) (.inl (some (.int r11)), (I12, L5, ab_RR, n, nc7, ns8)) ∧ ∃ (r13 : Int32), ab_C w d mt_M_thrown [.ref mx] (I12, L5, ab_RR, n, nc7, ns8) (.inl (some (.int r13)), (I12, L5, ab_RR, n, nc7, ns8)) ∧ ((r13 = r3 → ((¬ r3 = 0 → (ab_E w (d + 1) mt_W_law 1165 [.ref 34, .ref kx, .ref mx, .ref ox_out, .int v4, .int r3, .int r11] [] (I12, L5, ab_RR, n, nc7, ns8) res)) ∧ (r3 = 0 → (((lg_cmp (L5 ox_out 0) (Int32.toInt64 r11)) = 0 → (ab_E w (d + 1) mt_W_law 1165 [.ref 34, .ref kx, .ref mx, .ref ox_out, .int v4, .int r3, .int r11] [] (I12, L5, ab_RR, n, nc7, ns8) res)) ∧ (¬ (lg_cmp (L5 ox_out 0) (Int32.toInt64 r11)) = 0 → (res = (.inl (some (.int 0)), (I12, L5, ab_RR, n, nc7, ns8)))))))) ∧ (¬ r13 = r3 → (res = (.inl (some (.int 0)), (I12, L5, ab_RR, n, nc7, ns8)))))) : ab_E w (d + 1) mt_W_law 1100 [.ref 34, .ref kx, .ref mx, .ref ox_out, .int v4, .null, .null] [] (I, L, ab_RR, n, nc, ns) res := by
  refine ab_aload_n (i := 1) d_W_law_1100 rfl rfl ?_
  refine ab_aload_n (i := 0) d_W_law_1101 rfl rfl ?_
  refine ab_iload (i := 4) d_W_law_1102 rfl ?_
  refine ab_iconst (v := 1) d_W_law_1104 rfl ?_
  refine ab_iadd d_W_law_1105 ?_
  have g1 := h.1; have h := h.2
  refine ab_sald d_W_law_1106 g1 ?_
  refine ab_aload_n (i := 0) d_W_law_1107 rfl rfl ?_
  refine ab_iload (i := 4) d_W_law_1108 rfl ?_
  refine ab_iconst (v := 2) d_W_law_1110 rfl ?_
  refine ab_iadd d_W_law_1111 ?_
  have g2 := h.1; have h := h.2
  refine ab_sald d_W_law_1112 g2 ?_
  refine ab_aload_n (i := 3) d_W_law_1113 rfl rfl ?_
  obtain ⟨r3, I4, L5, n6, nc7, ns8, ⟨hC, l1, l2, hc, hs⟩, h⟩ := h
  refine ab_callSH (me2 := mt_W_swap) (as := [.ref kx, .int (w.2.2.2.2.2.1 (v4 + 1).toNatClampNeg), .int (w.2.2.2.2.2.1 (v4 + 2).toNatClampNeg), .ref ox_out]) (st := []) (rv := some (.int r3)) (M2 := (I4, L5, ab_RR, n6, nc7, ns8)) d_W_law_1114 v_1265 v_139 ⟨by decide, by decide, (show (parseMethodDescriptor mt_W_swap.1.desc).map (fun d => d.parameters.length) = some 4 from by decide +kernel)⟩ (by decide) v_1263 v_1264 (Nat.le_of_ble_eq_true rfl) hC l1 l2 hc hs (fun j h9 => by cases h9) (fun _ _ => rfl) ?_
  show ab_E w (d + 1) mt_W_law 1117 [.ref 34, .ref kx, .ref mx, .ref ox_out, .int v4, .null, .null] [.int r3] (I4, L5, ab_RR, n, nc7, ns8) res
  refine ab_istore (i := 5) d_W_law_1117 (by decide) (Or.inr rfl) ?_
  refine ab_aload_n (i := 2) d_W_law_1119 rfl rfl ?_
  refine ab_aload_n (i := 0) d_W_law_1120 rfl rfl ?_
  refine ab_iload (i := 4) d_W_law_1121 rfl ?_
  refine ab_iconst (v := 1) d_W_law_1123 rfl ?_
  refine ab_iadd d_W_law_1124 ?_
  have g9 := h.1; have h := h.2
  refine ab_sald d_W_law_1125 g9 ?_
  refine ab_aload_n (i := 0) d_W_law_1126 rfl rfl ?_
  refine ab_iload (i := 4) d_W_law_1127 rfl ?_
  refine ab_iconst (v := 2) d_W_law_1129 rfl ?_
  refine ab_iadd d_W_law_1130 ?_
  have g10 := h.1; have h := h.2
  refine ab_sald d_W_law_1131 g10 ?_
  obtain ⟨r11, I12, hC, h⟩ := h
  refine ab_callV (me2 := mt_M_swap) (b := mx) (as := [.int (w.2.2.2.2.2.1 (v4 + 1).toNatClampNeg), .int (w.2.2.2.2.2.1 (v4 + 2).toNatClampNeg)]) (st := []) (rv := (some (.int r11))) (M2 := (I12, L5, ab_RR, n, nc7, ns8)) d_W_law_1132 ce_M_swap v_1892 v_1893 v_1894 (by decide) rfl (Nat.le_of_ble_eq_true rfl) hC (Nat.le_refl _) (Nat.le_refl _) hc hs (fun j h9 => by cases h9) (fun _ _ => rfl) ?_
  show ab_E w (d + 1) mt_W_law 1135 [.ref 34, .ref kx, .ref mx, .ref ox_out, .int v4, .int r3, .null] [.int r11] (I12, L5, ab_RR, n, nc7, ns8) res
  refine ab_istore (i := 6) d_W_law_1135 (by decide) (Or.inr rfl) ?_
  refine ab_aload_n (i := 2) d_W_law_1137 rfl rfl ?_
  obtain ⟨r13, hC, h⟩ := h
  refine ab_callV (me2 := mt_M_thrown) (b := mx) (as := []) (st := []) (rv := (some (.int r13))) (M2 := (I12, L5, ab_RR, n, nc7, ns8)) d_W_law_1138 ce_M_thrown v_1550 v_1551 v_1552 (by decide) rfl (Nat.le_of_ble_eq_true rfl) hC (Nat.le_refl _) (Nat.le_refl _) hc hs (fun j h9 => by cases h9) (fun _ _ => rfl) ?_
  show ab_E w (d + 1) mt_W_law 1141 [.ref 34, .ref kx, .ref mx, .ref ox_out, .int v4, .int r3, .int r11] [.int r13] (I12, L5, ab_RR, n, nc7, ns8) res
  refine ab_iload (i := 5) d_W_law_1141 rfl ?_
  refine ab_icmp_eq (tgt := 1148) d_W_law_1143 (by decide) (fun c14 => ?_) (fun c14 => ?_)
  · have h := h.1 c14
    refine ab_iload (i := 5) d_W_law_1148 rfl ?_
    refine ab_if_ne (tgt := 1165) d_W_law_1150 (by decide) (fun c15 => ?_) (fun c15 => ?_)
    · have h := h.1 c15
      exact h
    · have h := h.2 c15
      refine ab_aload_n (i := 3) d_W_law_1153 rfl rfl ?_
      refine ab_iconst (v := 0) d_W_law_1154 rfl ?_
      refine ab_lald d_W_law_1155 rfl rfl (by unfold vp_in; decide) ?_
      refine ab_iload (i := 6) d_W_law_1156 rfl ?_
      refine ab_i2l d_W_law_1158 ?_
      refine ab_lcmp d_W_law_1159 ?_
      refine ab_if_eq (tgt := 1165) d_W_law_1160 (by decide) (fun c16 => ?_) (fun c16 => ?_)
      · have h := h.1 c16
        exact h
      · have h := h.2 c16
        refine ab_iconst (v := 0) d_W_law_1163 rfl ?_
        exact ab_iret (ty := .boolean) d_W_law_1164 rfl rfl h
  · have h := h.2 c14
    refine ab_iconst (v := 0) d_W_law_1146 rfl ?_
    exact ab_iret (ty := .boolean) d_W_law_1147 rfl rfl h
theorem q_W_law_1165 {w : ab_Wd} {d n nc ns : Nat} {I : Nat → Nat → Int32} {L : Nat → Nat → Int64} {res : ab_Re} (v4 : Int32) (v5 : Int32) (v6 : Int32) (hc : nc ≤ res.2.2.2.2.2.1) (hs : ns ≤ res.2.2.2.2.2.2)
    (h : ab_E w (d + 1) mt_W_law 1658 [.ref 34, .ref kx, .ref mx, .ref ox_out, .int v4, .null, .null] [] (I, L, ab_RR, n, nc, ns) res) : ab_E w (d + 1) mt_W_law 1165 [.ref 34, .ref kx, .ref mx, .ref ox_out, .int v4, .int v5, .int v6] [] (I, L, ab_RR, n, nc, ns) res := by
  refine ab_goto (tgt := 1658) d_W_law_1165 (by decide) ?_
  refine ab_drop 5 ?_
  refine ab_drop 6 ?_
  exact h
