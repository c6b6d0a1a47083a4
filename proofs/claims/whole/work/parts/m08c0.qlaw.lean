theorem q_W_law_23 {w : ab_Wd} {d n nc ns : Nat} {I : Nat → Nat → Int32} {L : Nat → Nat → Int64} {res : ab_Re} (v4 : Int32) (hc : nc ≤ res.2.2.2.2.2.1) (hs : ns ≤ res.2.2.2.2.2.2)
    (h : ((((nI w.2.2.2.2.1) - 6) < v4 → (res = (.inl (some (.int 1)), (I, L, ab_RR, n, nc, ns)))) ∧ (¬ ((nI w.2.2.2.2.1) - 6) < v4 → ((vp_in v4 w.2.2.2.2.1) ∧ ((((w.2.2.2.2.2.1 v4.toNatClampNeg) &&& 31) = 0 → (ab_E w (d + 1) mt_W_law 176 [.ref 34, .ref kx, .ref mx, .ref ox_out, .int v4, .null, .null] [] (I, L, ab_RR, n, nc, ns) res)) ∧ (((w.2.2.2.2.2.1 v4.toNatClampNeg) &&& 31) = 1 → (ab_E w (d + 1) mt_W_law 249 [.ref 34, .ref kx, .ref mx, .ref ox_out, .int v4, .null, .null] [] (I, L, ab_RR, n, nc, ns) res)) ∧ (((w.2.2.2.2.2.1 v4.toNatClampNeg) &&& 31) = 2 → (ab_E w (d + 1) mt_W_law 305 [.ref 34, .ref kx, .ref mx, .ref ox_out, .int v4, .null, .null] [] (I, L, ab_RR, n, nc, ns) res)) ∧ (((w.2.2.2.2.2.1 v4.toNatClampNeg) &&& 31) = 3 → (ab_E w (d + 1) mt_W_law 318 [.ref 34, .ref kx, .ref mx, .ref ox_out, .int v4, .null, .null] [] (I, L, ab_RR, n, nc, ns) res)) ∧ (((w.2.2.2.2.2.1 v4.toNatClampNeg) &&& 31) = 4 → (ab_E w (d + 1) mt_W_law 374 [.ref 34, .ref kx, .ref mx, .ref ox_out, .int v4, .null, .null] [] (I, L, ab_RR, n, nc, ns) res)) ∧ (((w.2.2.2.2.2.1 v4.toNatClampNeg) &&& 31) = 5 → (ab_E w (d + 1) mt_W_law 442 [.ref 34, .ref kx, .ref mx, .ref ox_out, .int v4, .null, .null] [] (I, L, ab_RR, n, nc, ns) res)) ∧ (((w.2.2.2.2.2.1 v4.toNatClampNeg) &&& 31) = 6 → (ab_E w (d + 1) mt_W_law 510 [.ref 34, .ref kx, .ref mx, .ref ox_out, .int v4, .null, .null] [] (I, L, ab_RR, n, nc, ns) res)) ∧ (((w.2.2.2.2.2.1 v4.toNatClampNeg) &&& 31) = 7 → (ab_E w (d + 1) mt_W_law 566 [.ref 34, .ref kx, .ref mx, .ref ox_out, .int v4, .null, .null] [] (I, L, ab_RR, n, nc, ns) res)) ∧ (((w.2.2.2.2.2.1 v4.toNatClampNeg) &&& 31) = 8 → (ab_E w (d + 1) mt_W_law 634 [.ref 34, .ref kx, .ref mx, .ref ox_out, .int v4, .null, .null] [] (I, L, ab_RR, n, nc, ns) res)) ∧ (((w.2.2.2.2.2.1 v4.toNatClampNeg) &&& 31) = 9 → (ab_E w (d + 1) mt_W_law 714 [.ref 34, .ref kx, .ref mx, .ref ox_out, .int v4, .null, .null] [] (I, L, ab_RR, n, nc, ns) res)) ∧ (((w.2.2.2.2.2.1 v4.toNatClampNeg) &&& 31) = 10 → (ab_E w (d + 1) mt_W_law 782 [.ref 34, .ref kx, .ref mx, .ref ox_out, .int v4, .null, .null] [] (I, L, ab_RR, n, nc, ns) res)) ∧ (((w.2.2.2.2.2.1 v4.toNatClampNeg) &&& 31) = 11 → (ab_E w (d + 1) mt_W_law 838 [.ref 34, .ref kx, .ref mx, .ref ox_out, .int v4, .null, .null] [] (I, L, ab_RR, n, nc, ns) res)) ∧ (((w.2.2.2.2.2.1 v4.toNatClampNeg) &&& 31) = 12 → (ab_E w (d + 1) mt_W_law 906 [.ref 34, .ref kx, .ref mx, .ref ox_out, .int v4, .null, .null] [] (I, L, ab_RR, n, nc, ns) res)) ∧ (((w.2.2.2.2.2.1 v4.toNatClampNeg) &&& 31) = 13 → (ab_E w (d + 1) mt_W_law 974 [.ref 34, .ref kx, .ref mx, .ref ox_out, .int v4, .null, .null] [] (I, L, ab_RR, n, nc, ns) res)) ∧ (((w.2.2.2.2.2.1 v4.toNatClampNeg) &&& 31) = 14 → (ab_E w (d + 1) mt_W_law 988 [.ref 34, .ref kx, .ref mx, .ref ox_out, .int v4, .null, .null] [] (I, L, ab_RR, n, nc, ns) res)) ∧ (((w.2.2.2.2.2.1 v4.toNatClampNeg) &&& 31) = 15 → (ab_E w (d + 1) mt_W_law 1044 [.ref 34, .ref kx, .ref mx, .ref ox_out, .int v4, .null, .null] [] (I, L, ab_RR, n, nc, ns) res)) ∧ (((w.2.2.2.2.2.1 v4.toNatClampNeg) &&& 31) = 16 → (ab_E w (d + 1) mt_W_law 1100 [.ref 34, .ref kx, .ref mx, .ref ox_out, .int v4, .null, .null] [] (I, L, ab_RR, n, nc, ns) res)) ∧ (((w.2.2.2.2.2.1 v4.toNatClampNeg) &&& 31) = 17 → (ab_E w (d + 1) mt_W_law 1168 [.ref 34, .ref kx, .ref mx, .ref ox_out, .int v4, .null, .null] [] (I, L, ab_RR, n, nc, ns) res)) ∧ (((w.2.2.2.2.2.1 v4.toNatClampNeg) &&& 31) = 18 → (ab_E w (d + 1) mt_W_law 1205 [.ref 34, .ref kx, .ref mx, .ref ox_out, .int v4, .null, .null] [] (I, L, ab_RR, n, nc, ns) res)) ∧ (((w.2.2.2.2.2.1 v4.toNatClampNeg) &&& 31) = 19 → (ab_E w (d + 1) mt_W_law 1242 [.ref 34, .ref kx, .ref mx, .ref ox_out, .int v4, .null, .null] [] (I, L, ab_RR, n, nc, ns) res)) ∧ (((w.2.2.2.2.2.1 v4.toNatClampNeg) &&& 31) = 20 → (ab_E w (d + 1) mt_W_law 1267 [.ref 34, .ref kx, .ref mx, .ref ox_out, .int v4, .null, .null] [] (I, L, ab_RR, n, nc, ns) res)) ∧ (((w.2.2.2.2.2.1 v4.toNatClampNeg) &&& 31) = 21 → (ab_E w (d + 1) mt_W_law 1292 [.ref 34, .ref kx, .ref mx, .ref ox_out, .int v4, .null, .null] [] (I, L, ab_RR, n, nc, ns) res)) ∧ (((w.2.2.2.2.2.1 v4.toNatClampNeg) &&& 31) = 22 → (ab_E w (d + 1) mt_W_law 1353 [.ref 34, .ref kx, .ref mx, .ref ox_out, .int v4, .null, .null] [] (I, L, ab_RR, n, nc, ns) res)) ∧ (((w.2.2.2.2.2.1 v4.toNatClampNeg) &&& 31) = 23 → (ab_E w (d + 1) mt_W_law 1366 [.ref 34, .ref kx, .ref mx, .ref ox_out, .int v4, .null, .null] [] (I, L, ab_RR, n, nc, ns) res)) ∧ (((w.2.2.2.2.2.1 v4.toNatClampNeg) &&& 31) = 24 → (ab_E w (d + 1) mt_W_law 1419 [.ref 34, .ref kx, .ref mx, .ref ox_out, .int v4, .null, .null] [] (I, L, ab_RR, n, nc, ns) res)) ∧ (((w.2.2.2.2.2.1 v4.toNatClampNeg) &&& 31) = 25 → (ab_E w (d + 1) mt_W_law 1487 [.ref 34, .ref kx, .ref mx, .ref ox_out, .int v4, .null, .null] [] (I, L, ab_RR, n, nc, ns) res)) ∧ (((w.2.2.2.2.2.1 v4.toNatClampNeg) &&& 31) = 26 → (ab_E w (d + 1) mt_W_law 1543 [.ref 34, .ref kx, .ref mx, .ref ox_out, .int v4, .null, .null] [] (I, L, ab_RR, n, nc, ns) res)) ∧ (((w.2.2.2.2.2.1 v4.toNatClampNeg) &&& 31) = 27 → (ab_E w (d + 1) mt_W_law 1554 [.ref 34, .ref kx, .ref mx, .ref ox_out, .int v4, .null, .null] [] (I, L, ab_RR, n, nc, ns) res)) ∧ (((w.2.2.2.2.2.1 v4.toNatClampNeg) &&& 31) = 28 → (ab_E w (d + 1) mt_W_law 1634 [.ref 34, .ref kx, .ref mx, .ref ox_out, .int v4, .null, .null] [] (I, L, ab_RR, n, nc, ns) res)) ∧ (((w.2.2.2.2.2.1 v4.toNatClampNeg) &&& 31) = 29 → (ab_E w (d + 1) mt_W_law 1645 [.ref 34, .ref kx, .ref mx, .ref ox_out, .int v4, .null, .null] [] (I, L, ab_RR, n, nc, ns) res)) ∧ ((((w.2.2.2.2.2.1 v4.toNatClampNeg) &&& 31).toInt < 0 ∨ 29 < ((w.2.2.2.2.2.1 v4.toNatClampNeg) &&& 31).toInt) → (ab_E w (d + 1) mt_W_law 1658 [.ref 34, .ref kx, .ref mx, .ref ox_out, .int v4, .null, .null] [] (I, L, ab_RR, n, nc, ns) res))))))) : ab_E w (d + 1) mt_W_law 23 [.ref 34, .ref kx, .ref mx, .ref ox_out, .int v4, .null, .null] [] (I, L, ab_RR, n, nc, ns) res := by
  refine ab_iload (i := 4) d_W_law_23 rfl ?_
  refine ab_aload_n (i := 0) d_W_law_25 rfl rfl ?_
  refine ab_salen d_W_law_26 ?_
  refine ab_bipush (v := 6) d_W_law_27 rfl ?_
  refine ab_isub d_W_law_29 ?_
  refine ab_icmp_gt (tgt := 1664) d_W_law_30 (by decide) (fun c1 => ?_) (fun c1 => ?_)
  · have h := h.1 c1
    refine ab_iconst (v := 1) d_W_law_1664 rfl ?_
    exact ab_iret (ty := .boolean) d_W_law_1665 rfl rfl h
  · have h := h.2 c1
    refine ab_aload_n (i := 0) d_W_law_33 rfl rfl ?_
    refine ab_iload (i := 4) d_W_law_34 rfl ?_
    have g2 := h.1; have h := h.2
    refine ab_sald d_W_law_36 g2 ?_
    refine ab_bipush (v := 31) d_W_law_37 rfl ?_
    refine ab_iand d_W_law_39 ?_
    by_cases c3 : ((w.2.2.2.2.2.1 v4.toNatClampNeg) &&& 31) = 0
    · have h := h.1 c3
      refine ab_tabIn (tgt := 176) d_W_law_40 (by rw [c3]; decide) (by rw [c3]; decide) (by rw [ab_tab_in (j := 0) c3 (by decide)]; rfl) (by decide) ?_
      exact h
    by_cases c4 : ((w.2.2.2.2.2.1 v4.toNatClampNeg) &&& 31) = 1
    · have h := h.2.1 c4
      refine ab_tabIn (tgt := 249) d_W_law_40 (by rw [c4]; decide) (by rw [c4]; decide) (by rw [ab_tab_in (j := 1) c4 (by decide)]; rfl) (by decide) ?_
      exact h
    by_cases c5 : ((w.2.2.2.2.2.1 v4.toNatClampNeg) &&& 31) = 2
    · have h := h.2.2.1 c5
      refine ab_tabIn (tgt := 305) d_W_law_40 (by rw [c5]; decide) (by rw [c5]; decide) (by rw [ab_tab_in (j := 2) c5 (by decide)]; rfl) (by decide) ?_
      exact h
    by_cases c6 : ((w.2.2.2.2.2.1 v4.toNatClampNeg) &&& 31) = 3
    · have h := h.2.2.2.1 c6
      refine ab_tabIn (tgt := 318) d_W_law_40 (by rw [c6]; decide) (by rw [c6]; decide) (by rw [ab_tab_in (j := 3) c6 (by decide)]; rfl) (by decide) ?_
      exact h
    by_cases c7 : ((w.2.2.2.2.2.1 v4.toNatClampNeg) &&& 31) = 4
    · have h := h.2.2.2.2.1 c7
      refine ab_tabIn (tgt := 374) d_W_law_40 (by rw [c7]; decide) (by rw [c7]; decide) (by rw [ab_tab_in (j := 4) c7 (by decide)]; rfl) (by decide) ?_
      exact h
    by_cases c8 : ((w.2.2.2.2.2.1 v4.toNatClampNeg) &&& 31) = 5
    · have h := h.2.2.2.2.2.1 c8
      refine ab_tabIn (tgt := 442) d_W_law_40 (by rw [c8]; decide) (by rw [c8]; decide) (by rw [ab_tab_in (j := 5) c8 (by decide)]; rfl) (by decide) ?_
      exact h
    by_cases c9 : ((w.2.2.2.2.2.1 v4.toNatClampNeg) &&& 31) = 6
    · have h := h.2.2.2.2.2.2.1 c9
      refine ab_tabIn (tgt := 510) d_W_law_40 (by rw [c9]; decide) (by rw [c9]; decide) (by rw [ab_tab_in (j := 6) c9 (by decide)]; rfl) (by decide) ?_
      exact h
    by_cases c10 : ((w.2.2.2.2.2.1 v4.toNatClampNeg) &&& 31) = 7
    · have h := h.2.2.2.2.2.2.2.1 c10
      refine ab_tabIn (tgt := 566) d_W_law_40 (by rw [c10]; decide) (by rw [c10]; decide) (by rw [ab_tab_in (j := 7) c10 (by decide)]; rfl) (by decide) ?_
      exact h
    by_cases c11 : ((w.2.2.2.2.2.1 v4.toNatClampNeg) &&& 31) = 8
    · have h := h.2.2.2.2.2.2.2.2.1 c11
      refine ab_tabIn (tgt := 634) d_W_law_40 (by rw [c11]; decide) (by rw [c11]; decide) (by rw [ab_tab_in (j := 8) c11 (by decide)]; rfl) (by decide) ?_
      exact h
    by_cases c12 : ((w.2.2.2.2.2.1 v4.toNatClampNeg) &&& 31) = 9
    · have h := h.2.2.2.2.2.2.2.2.2.1 c12
      refine ab_tabIn (tgt := 714) d_W_law_40 (by rw [c12]; decide) (by rw [c12]; decide) (by rw [ab_tab_in (j := 9) c12 (by decide)]; rfl) (by decide) ?_
      exact h
    by_cases c13 : ((w.2.2.2.2.2.1 v4.toNatClampNeg) &&& 31) = 10
    · have h := h.2.2.2.2.2.2.2.2.2.2.1 c13
      refine ab_tabIn (tgt := 782) d_W_law_40 (by rw [c13]; decide) (by rw [c13]; decide) (by rw [ab_tab_in (j := 10) c13 (by decide)]; rfl) (by decide) ?_
      exact h
    by_cases c14 : ((w.2.2.2.2.2.1 v4.toNatClampNeg) &&& 31) = 11
    · have h := h.2.2.2.2.2.2.2.2.2.2.2.1 c14
      refine ab_tabIn (tgt := 838) d_W_law_40 (by rw [c14]; decide) (by rw [c14]; decide) (by rw [ab_tab_in (j := 11) c14 (by decide)]; rfl) (by decide) ?_
      exact h
    by_cases c15 : ((w.2.2.2.2.2.1 v4.toNatClampNeg) &&& 31) = 12
    · have h := h.2.2.2.2.2.2.2.2.2.2.2.2.1 c15
      refine ab_tabIn (tgt := 906) d_W_law_40 (by rw [c15]; decide) (by rw [c15]; decide) (by rw [ab_tab_in (j := 12) c15 (by decide)]; rfl) (by decide) ?_
      exact h
    by_cases c16 : ((w.2.2.2.2.2.1 v4.toNatClampNeg) &&& 31) = 13
    · have h := h.2.2.2.2.2.2.2.2.2.2.2.2.2.1 c16
      refine ab_tabIn (tgt := 974) d_W_law_40 (by rw [c16]; decide) (by rw [c16]; decide) (by rw [ab_tab_in (j := 13) c16 (by decide)]; rfl) (by decide) ?_
      exact h
    by_cases c17 : ((w.2.2.2.2.2.1 v4.toNatClampNeg) &&& 31) = 14
    · have h := h.2.2.2.2.2.2.2.2.2.2.2.2.2.2.1 c17
      refine ab_tabIn (tgt := 988) d_W_law_40 (by rw [c17]; decide) (by rw [c17]; decide) (by rw [ab_tab_in (j := 14) c17 (by decide)]; rfl) (by decide) ?_
      exact h
    by_cases c18 : ((w.2.2.2.2.2.1 v4.toNatClampNeg) &&& 31) = 15
    · have h := h.2.2.2.2.2.2.2.2.2.2.2.2.2.2.2.1 c18
      refine ab_tabIn (tgt := 1044) d_W_law_40 (by rw [c18]; decide) (by rw [c18]; decide) (by rw [ab_tab_in (j := 15) c18 (by decide)]; rfl) (by decide) ?_
      exact h
    by_cases c19 : ((w.2.2.2.2.2.1 v4.toNatClampNeg) &&& 31) = 16
    · have h := h.2.2.2.2.2.2.2.2.2.2.2.2.2.2.2.2.1 c19
      refine ab_tabIn (tgt := 1100) d_W_law_40 (by rw [c19]; decide) (by rw [c19]; decide) (by rw [ab_tab_in (j := 16) c19 (by decide)]; rfl) (by decide) ?_
      exact h
    by_cases c20 : ((w.2.2.2.2.2.1 v4.toNatClampNeg) &&& 31) = 17
    · have h := h.2.2.2.2.2.2.2.2.2.2.2.2.2.2.2.2.2.1 c20
      refine ab_tabIn (tgt := 1168) d_W_law_40 (by rw [c20]; decide) (by rw [c20]; decide) (by rw [ab_tab_in (j := 17) c20 (by decide)]; rfl) (by decide) ?_
      exact h
    by_cases c21 : ((w.2.2.2.2.2.1 v4.toNatClampNeg) &&& 31) = 18
    · have h := h.2.2.2.2.2.2.2.2.2.2.2.2.2.2.2.2.2.2.1 c21
      refine ab_tabIn (tgt := 1205) d_W_law_40 (by rw [c21]; decide) (by rw [c21]; decide) (by rw [ab_tab_in (j := 18) c21 (by decide)]; rfl) (by decide) ?_
      exact h
    by_cases c22 : ((w.2.2.2.2.2.1 v4.toNatClampNeg) &&& 31) = 19
    · have h := h.2.2.2.2.2.2.2.2.2.2.2.2.2.2.2.2.2.2.2.1 c22
      refine ab_tabIn (tgt := 1242) d_W_law_40 (by rw [c22]; decide) (by rw [c22]; decide) (by rw [ab_tab_in (j := 19) c22 (by decide)]; rfl) (by decide) ?_
      exact h
    by_cases c23 : ((w.2.2.2.2.2.1 v4.toNatClampNeg) &&& 31) = 20
    · have h := h.2.2.2.2.2.2.2.2.2.2.2.2.2.2.2.2.2.2.2.2.1 c23
      refine ab_tabIn (tgt := 1267) d_W_law_40 (by rw [c23]; decide) (by rw [c23]; decide) (by rw [ab_tab_in (j := 20) c23 (by decide)]; rfl) (by decide) ?_
      exact h
    by_cases c24 : ((w.2.2.2.2.2.1 v4.toNatClampNeg) &&& 31) = 21
    · have h := h.2.2.2.2.2.2.2.2.2.2.2.2.2.2.2.2.2.2.2.2.2.1 c24
      refine ab_tabIn (tgt := 1292) d_W_law_40 (by rw [c24]; decide) (by rw [c24]; decide) (by rw [ab_tab_in (j := 21) c24 (by decide)]; rfl) (by decide) ?_
      exact h
    by_cases c25 : ((w.2.2.2.2.2.1 v4.toNatClampNeg) &&& 31) = 22
    · have h := h.2.2.2.2.2.2.2.2.2.2.2.2.2.2.2.2.2.2.2.2.2.2.1 c25
      refine ab_tabIn (tgt := 1353) d_W_law_40 (by rw [c25]; decide) (by rw [c25]; decide) (by rw [ab_tab_in (j := 22) c25 (by decide)]; rfl) (by decide) ?_
      exact h
    by_cases c26 : ((w.2.2.2.2.2.1 v4.toNatClampNeg) &&& 31) = 23
    · have h := h.2.2.2.2.2.2.2.2.2.2.2.2.2.2.2.2.2.2.2.2.2.2.2.1 c26
      refine ab_tabIn (tgt := 1366) d_W_law_40 (by rw [c26]; decide) (by rw [c26]; decide) (by rw [ab_tab_in (j := 23) c26 (by decide)]; rfl) (by decide) ?_
      exact h
    by_cases c27 : ((w.2.2.2.2.2.1 v4.toNatClampNeg) &&& 31) = 24
    · have h := h.2.2.2.2.2.2.2.2.2.2.2.2.2.2.2.2.2.2.2.2.2.2.2.2.1 c27
      refine ab_tabIn (tgt := 1419) d_W_law_40 (by rw [c27]; decide) (by rw [c27]; decide) (by rw [ab_tab_in (j := 24) c27 (by decide)]; rfl) (by decide) ?_
      exact h
    by_cases c28 : ((w.2.2.2.2.2.1 v4.toNatClampNeg) &&& 31) = 25
    · have h := h.2.2.2.2.2.2.2.2.2.2.2.2.2.2.2.2.2.2.2.2.2.2.2.2.2.1 c28
      refine ab_tabIn (tgt := 1487) d_W_law_40 (by rw [c28]; decide) (by rw [c28]; decide) (by rw [ab_tab_in (j := 25) c28 (by decide)]; rfl) (by decide) ?_
      exact h
    by_cases c29 : ((w.2.2.2.2.2.1 v4.toNatClampNeg) &&& 31) = 26
    · have h := h.2.2.2.2.2.2.2.2.2.2.2.2.2.2.2.2.2.2.2.2.2.2.2.2.2.2.1 c29
      refine ab_tabIn (tgt := 1543) d_W_law_40 (by rw [c29]; decide) (by rw [c29]; decide) (by rw [ab_tab_in (j := 26) c29 (by decide)]; rfl) (by decide) ?_
      exact h
    by_cases c30 : ((w.2.2.2.2.2.1 v4.toNatClampNeg) &&& 31) = 27
    · have h := h.2.2.2.2.2.2.2.2.2.2.2.2.2.2.2.2.2.2.2.2.2.2.2.2.2.2.2.1 c30
      refine ab_tabIn (tgt := 1554) d_W_law_40 (by rw [c30]; decide) (by rw [c30]; decide) (by rw [ab_tab_in (j := 27) c30 (by decide)]; rfl) (by decide) ?_
      exact h
    by_cases c31 : ((w.2.2.2.2.2.1 v4.toNatClampNeg) &&& 31) = 28
    · have h := h.2.2.2.2.2.2.2.2.2.2.2.2.2.2.2.2.2.2.2.2.2.2.2.2.2.2.2.2.1 c31
      refine ab_tabIn (tgt := 1634) d_W_law_40 (by rw [c31]; decide) (by rw [c31]; decide) (by rw [ab_tab_in (j := 28) c31 (by decide)]; rfl) (by decide) ?_
      exact h
    by_cases c32 : ((w.2.2.2.2.2.1 v4.toNatClampNeg) &&& 31) = 29
    · have h := h.2.2.2.2.2.2.2.2.2.2.2.2.2.2.2.2.2.2.2.2.2.2.2.2.2.2.2.2.2.1 c32
      refine ab_tabIn (tgt := 1645) d_W_law_40 (by rw [c32]; decide) (by rw [c32]; decide) (by rw [ab_tab_in (j := 29) c32 (by decide)]; rfl) (by decide) ?_
      exact h
    have hr : ((w.2.2.2.2.2.1 v4.toNatClampNeg) &&& 31).toInt < 0 ∨ 29 < ((w.2.2.2.2.2.1 v4.toNatClampNeg) &&& 31).toInt := by
      rcases Int.lt_or_le ((w.2.2.2.2.2.1 v4.toNatClampNeg) &&& 31).toInt 0 with h9 | h9
      · exact Or.inl h9
      · refine Or.inr (Int.not_le.mp fun h8 => ?_)
        exact ab_tab_out (lo := 0) (hi := 29) (k := 30) h9 h8 (by decide) (by
          intro j hj
          match j, hj with
          | 0, _ => exact c3
          | 1, _ => exact c4
          | 2, _ => exact c5
          | 3, _ => exact c6
          | 4, _ => exact c7
          | 5, _ => exact c8
          | 6, _ => exact c9
          | 7, _ => exact c10
          | 8, _ => exact c11
          | 9, _ => exact c12
          | 10, _ => exact c13
          | 11, _ => exact c14
          | 12, _ => exact c15
          | 13, _ => exact c16
          | 14, _ => exact c17
          | 15, _ => exact c18
          | 16, _ => exact c19
          | 17, _ => exact c20
          | 18, _ => exact c21
          | 19, _ => exact c22
          | 20, _ => exact c23
          | 21, _ => exact c24
          | 22, _ => exact c25
          | 23, _ => exact c26
          | 24, _ => exact c27
          | 25, _ => exact c28
          | 26, _ => exact c29
          | 27, _ => exact c30
          | 28, _ => exact c31
          | 29, _ => exact c32
          | j9 + 30, hj => exact absurd hj (by omega))
    have h := h.2.2.2.2.2.2.2.2.2.2.2.2.2.2.2.2.2.2.2.2.2.2.2.2.2.2.2.2.2.2 hr
    refine ab_tabOut (tgt := 1658) d_W_law_40 hr (by decide) ?_
    exact h
theorem q_W_law_176 {w : ab_Wd} {d n nc ns : Nat} {I : Nat → Nat → Int32} {L : Nat → Nat → Int64} {res : ab_Re} (v4 : Int32) (hc : nc ≤ res.2.2.2.2.2.1) (hs : ns ≤ res.2.2.2.2.2.2)
    (h : (vp_in (v4 + 1) w.2.2.2.2.1) ∧ (vp_in (v4 + 2) w.2.2.2.2.1) ∧ (vp_in (v4 + 3) w.2.2.2.2.1) ∧ (vp_in (v4 + 4) w.2.2.2.2.1) ∧ (vp_in (v4 + 5) w.2.2.2.2.1) ∧ ∃ (r6 : Int32) (I7 : Nat → Nat → Int32), ab_C w d mt_K_feed [.ref kx, .int (w.2.2.2.2.2.1 (v4 + 1).toNatClampNeg), .int (w.2.2.2.2.2.1 (v4 + 2).toNatClampNeg), .int (w.2.2.2.2.2.1 (v4 + 3).toNatClampNeg), .int (w.2.2.2.2.2.1 (v4 + 4).toNatClampNeg), .int (w.2.2.2.2.2.1 (v4 + 5).toNatClampNeg)] (I, L, ab_RR, n, nc, ns) (.inl (some (.int r6)), (I7, L, ab_RR, n, nc, ns)) ∧ (vp_in (v4 + 1) w.2.2.2.2.1) ∧ (vp_in (v4 + 2) w.2.2.2.2.1) ∧ (vp_in (v4 + 3) w.2.2.2.2.1) ∧ (vp_in (v4 + 4) w.2.2.2.2.1) ∧ (vp_in (v4 + 5) w.2.2.2.2.1) ∧ ∃ (r13 : Int32) (I14 : Nat → Nat → Int32), ab_C w d mt_M_feed [.ref mx, .int (w.2.2.2.2.2.1 (v4 + 1).toNatClampNeg), .int (w.2.2.2.2.2.1 (v4 + 2).toNatClampNeg), .int (w.2.2.2.2.2.1 (v4 + 3).toNatClampNeg), .int (w.2.2.2.2.2.1 (v4 + 4).toNatClampNeg), .int (w.2.2.2.2.2.1 (v4 + 5).toNatClampNeg)] (I7, L, ab_RR, n, nc, ns) (.inl (some (.int r13)), (I14, L, ab_RR, n, nc, ns)) ∧ ((r6 = r13 → (ab_E w (d + 1) mt_W_law 1658 [.ref 34, .ref kx, .ref mx, .ref ox_out, .int v4, .null, .null] [] (I14, L, ab_RR, n, nc, ns) res)) ∧ (¬ r6 = r13 → (res = (.inl (some (.int 0)), (I14, L, ab_RR, n, nc, ns)))))) : ab_E w (d + 1) mt_W_law 176 [.ref 34, .ref kx, .ref mx, .ref ox_out, .int v4, .null, .null] [] (I, L, ab_RR, n, nc, ns) res := by
  refine ab_aload_n (i := 1) d_W_law_176 rfl rfl ?_
  refine ab_aload_n (i := 0) d_W_law_177 rfl rfl ?_
  refine ab_iload (i := 4) d_W_law_178 rfl ?_
  refine ab_iconst (v := 1) d_W_law_180 rfl ?_
  refine ab_iadd d_W_law_181 ?_
  have g1 := h.1; have h := h.2
  refine ab_sald d_W_law_182 g1 ?_
  refine ab_aload_n (i := 0) d_W_law_183 rfl rfl ?_
  refine ab_iload (i := 4) d_W_law_184 rfl ?_
  refine ab_iconst (v := 2) d_W_law_186 rfl ?_
  refine ab_iadd d_W_law_187 ?_
  have g2 := h.1; have h := h.2
  refine ab_sald d_W_law_188 g2 ?_
  refine ab_aload_n (i := 0) d_W_law_189 rfl rfl ?_
  refine ab_iload (i := 4) d_W_law_190 rfl ?_
  refine ab_iconst (v := 3) d_W_law_192 rfl ?_
  refine ab_iadd d_W_law_193 ?_
  have g3 := h.1; have h := h.2
  refine ab_sald d_W_law_194 g3 ?_
  refine ab_aload_n (i := 0) d_W_law_195 rfl rfl ?_
  refine ab_iload (i := 4) d_W_law_196 rfl ?_
  refine ab_iconst (v := 4) d_W_law_198 rfl ?_
  refine ab_iadd d_W_law_199 ?_
  have g4 := h.1; have h := h.2
  refine ab_sald d_W_law_200 g4 ?_
  refine ab_aload_n (i := 0) d_W_law_201 rfl rfl ?_
  refine ab_iload (i := 4) d_W_law_202 rfl ?_
  refine ab_iconst (v := 5) d_W_law_204 rfl ?_
  refine ab_iadd d_W_law_205 ?_
  have g5 := h.1; have h := h.2
  refine ab_sald d_W_law_206 g5 ?_
  obtain ⟨r6, I7, hC, h⟩ := h
  refine ab_callV (me2 := mt_K_feed) (b := kx) (as := [.int (w.2.2.2.2.2.1 (v4 + 1).toNatClampNeg), .int (w.2.2.2.2.2.1 (v4 + 2).toNatClampNeg), .int (w.2.2.2.2.2.1 (v4 + 3).toNatClampNeg), .int (w.2.2.2.2.2.1 (v4 + 4).toNatClampNeg), .int (w.2.2.2.2.2.1 (v4 + 5).toNatClampNeg)]) (st := []) (rv := (some (.int r6))) (M2 := (I7, L, ab_RR, n, nc, ns)) d_W_law_207 ce_K_feed v_515 v_516 v_517 (by decide) rfl (Nat.le_of_ble_eq_true rfl) hC (Nat.le_refl _) (Nat.le_refl _) hc hs (fun j h9 => by cases h9) (fun _ _ => rfl) ?_
  show ab_E w (d + 1) mt_W_law 210 [.ref 34, .ref kx, .ref mx, .ref ox_out, .int v4, .null, .null] [.int r6] (I7, L, ab_RR, n, nc, ns) res
  refine ab_aload_n (i := 2) d_W_law_210 rfl rfl ?_
  refine ab_aload_n (i := 0) d_W_law_211 rfl rfl ?_
  refine ab_iload (i := 4) d_W_law_212 rfl ?_
  refine ab_iconst (v := 1) d_W_law_214 rfl ?_
  refine ab_iadd d_W_law_215 ?_
  have g8 := h.1; have h := h.2
  refine ab_sald d_W_law_216 g8 ?_
  refine ab_aload_n (i := 0) d_W_law_217 rfl rfl ?_
  refine ab_iload (i := 4) d_W_law_218 rfl ?_
  refine ab_iconst (v := 2) d_W_law_220 rfl ?_
  refine ab_iadd d_W_law_221 ?_
  have g9 := h.1; have h := h.2
  refine ab_sald d_W_law_222 g9 ?_
  refine ab_aload_n (i := 0) d_W_law_223 rfl rfl ?_
  refine ab_iload (i := 4) d_W_law_224 rfl ?_
  refine ab_iconst (v := 3) d_W_law_226 rfl ?_
  refine ab_iadd d_W_law_227 ?_
  have g10 := h.1; have h := h.2
  refine ab_sald d_W_law_228 g10 ?_
  refine ab_aload_n (i := 0) d_W_law_229 rfl rfl ?_
  refine ab_iload (i := 4) d_W_law_230 rfl ?_
  refine ab_iconst (v := 4) d_W_law_232 rfl ?_
  refine ab_iadd d_W_law_233 ?_
  have g11 := h.1; have h := h.2
  refine ab_sald d_W_law_234 g11 ?_
  refine ab_aload_n (i := 0) d_W_law_235 rfl rfl ?_
  refine ab_iload (i := 4) d_W_law_236 rfl ?_
  refine ab_iconst (v := 5) d_W_law_238 rfl ?_
  refine ab_iadd d_W_law_239 ?_
  have g12 := h.1; have h := h.2
  refine ab_sald d_W_law_240 g12 ?_
  obtain ⟨r13, I14, hC, h⟩ := h
  refine ab_callV (me2 := mt_M_feed) (b := mx) (as := [.int (w.2.2.2.2.2.1 (v4 + 1).toNatClampNeg), .int (w.2.2.2.2.2.1 (v4 + 2).toNatClampNeg), .int (w.2.2.2.2.2.1 (v4 + 3).toNatClampNeg), .int (w.2.2.2.2.2.1 (v4 + 4).toNatClampNeg), .int (w.2.2.2.2.2.1 (v4 + 5).toNatClampNeg)]) (st := [.int r6]) (rv := (some (.int r13))) (M2 := (I14, L, ab_RR, n, nc, ns)) d_W_law_241 ce_M_feed v_1554 v_1555 v_1556 (by decide) rfl (Nat.le_of_ble_eq_true rfl) hC (Nat.le_refl _) (Nat.le_refl _) hc hs (fun j h9 => by cases h9) (fun _ _ => rfl) ?_
  show ab_E w (d + 1) mt_W_law 244 [.ref 34, .ref kx, .ref mx, .ref ox_out, .int v4, .null, .null] [.int r13, .int r6] (I14, L, ab_RR, n, nc, ns) res
  refine ab_icmp_eq (tgt := 1658) d_W_law_244 (by decide) (fun c15 => ?_) (fun c15 => ?_)
  · have h := h.1 c15
    exact h
  · have h := h.2 c15
    refine ab_iconst (v := 0) d_W_law_247 rfl ?_
    exact ab_iret (ty := .boolean) d_W_law_248 rfl rfl h
theorem q_W_law_249 {w : ab_Wd} {d n nc ns : Nat} {I : Nat → Nat → Int32} {L : Nat → Nat → Int64} {res : ab_Re} (v4 : Int32) (hc : nc ≤ res.2.2.2.2.2.1) (hs : ns ≤ res.2.2.2.2.2.2)
    (h : (vp_in (v4 + 1) w.2.2.2.2.1) ∧ ∃ (r2 : Int32) (I3 : Nat → Nat → Int32) (L4 : Nat → Nat → Int64) (n5 nc6 ns7 : Nat), (ab_CH w d mt_W_net [.ref kx, .int (w.2.2.2.2.2.1 (v4 + 1).toNatClampNeg), .ref ox_out] (I, L, ab_RR, n, nc, ns) (.inl (some (.int r2)), (I3, L4, ab_RR, n5, nc6, ns7)) ∧ nc ≤ nc6 ∧ ns ≤ ns7 ∧ nc6 ≤ res.2.2.2.2.2.1 ∧ ns7 ≤ res.2.2.2.2.2.2) ∧ (vp_in (v4 + 1) w.2.2.2.2.1) ∧ ∃ (r9 : Int32) (I10 : Nat → Nat → Int32), ab_C w d mt_M_net [.ref mx, .int (w.2.2.2.2.2.1 (v4 + 1).toNatClampNeg)] (I3, L4, ab_RR, n, nc6, ns7) (.inl (some (.int r9)), (I10, L4, ab_RR, n, nc6, ns7)) ∧ ∃ (r11 : Int32), ab_C w d mt_M_thrown [.ref mx] (I10, L4, ab_RR, n, nc6, ns7) (.inl (some (.int r11)), (I10, L4, ab_RR, n, nc6, ns7)) ∧ ((r11 = r2 → ((¬ r2 = 0 → (ab_E w (d + 1) mt_W_law 302 [.ref 34, .ref kx, .ref mx, .ref ox_out, .int v4, .int r2, .int r9] [] (I10, L4, ab_RR, n, nc6, ns7) res)) ∧ (r2 = 0 → (((lg_cmp (L4 ox_out 0) (Int32.toInt64 r9)) = 0 → (ab_E w (d + 1) mt_W_law 302 [.ref 34, .ref kx, .ref mx, .ref ox_out, .int v4, .int r2, .int r9] [] (I10, L4, ab_RR, n, nc6, ns7) res)) ∧ (¬ (lg_cmp (L4 ox_out 0) (Int32.toInt64 r9)) = 0 → (res = (.inl (some (.int 0)), (I10, L4, ab_RR, n, nc6, ns7)))))))) ∧ (¬ r11 = r2 → (res = (.inl (some (.int 0)), (I10, L4, ab_RR, n, nc6, ns7)))))) : ab_E w (d + 1) mt_W_law 249 [.ref 34, .ref kx, .ref mx, .ref ox_out, .int v4, .null, .null] [] (I, L, ab_RR, n, nc, ns) res := by
  refine ab_aload_n (i := 1) d_W_law_249 rfl rfl ?_
  refine ab_aload_n (i := 0) d_W_law_250 rfl rfl ?_
  refine ab_iload (i := 4) d_W_law_251 rfl ?_
  refine ab_iconst (v := 1) d_W_law_253 rfl ?_
  refine ab_iadd d_W_law_254 ?_
  have g1 := h.1; have h := h.2
  refine ab_sald d_W_law_255 g1 ?_
  refine ab_aload_n (i := 3) d_W_law_256 rfl rfl ?_
  obtain ⟨r2, I3, L4, n5, nc6, ns7, ⟨hC, l1, l2, hc, hs⟩, h⟩ := h
  refine ab_callSH (me2 := mt_W_net) (as := [.ref kx, .int (w.2.2.2.2.2.1 (v4 + 1).toNatClampNeg), .ref ox_out]) (st := []) (rv := some (.int r2)) (M2 := (I3, L4, ab_RR, n5, nc6, ns7)) d_W_law_257 v_692 v_139 ⟨by decide, by decide, (show (parseMethodDescriptor mt_W_net.1.desc).map (fun d => d.parameters.length) = some 3 from by decide +kernel)⟩ (by decide) v_690 v_691 (Nat.le_of_ble_eq_true rfl) hC l1 l2 hc hs (fun j h9 => by cases h9) (fun _ _ => rfl) ?_
  show ab_E w (d + 1) mt_W_law 260 [.ref 34, .ref kx, .ref mx, .ref ox_out, .int v4, .null, .null] [.int r2] (I3, L4, ab_RR, n, nc6, ns7) res
  refine ab_istore (i := 5) d_W_law_260 (by decide) (Or.inr rfl) ?_
  refine ab_aload_n (i := 2) d_W_law_262 rfl rfl ?_
  refine ab_aload_n (i := 0) d_W_law_263 rfl rfl ?_
  refine ab_iload (i := 4) d_W_law_264 rfl ?_
  refine ab_iconst (v := 1) d_W_law_266 rfl ?_
  refine ab_iadd d_W_law_267 ?_
  have g8 := h.1; have h := h.2
  refine ab_sald d_W_law_268 g8 ?_
  obtain ⟨r9, I10, hC, h⟩ := h
  refine ab_callV (me2 := mt_M_net) (b := mx) (as := [.int (w.2.2.2.2.2.1 (v4 + 1).toNatClampNeg)]) (st := []) (rv := (some (.int r9))) (M2 := (I10, L4, ab_RR, n, nc6, ns7)) d_W_law_269 ce_M_net v_1558 v_1559 v_1560 (by decide) rfl (Nat.le_of_ble_eq_true rfl) hC (Nat.le_refl _) (Nat.le_refl _) hc hs (fun j h9 => by cases h9) (fun _ _ => rfl) ?_
  show ab_E w (d + 1) mt_W_law 272 [.ref 34, .ref kx, .ref mx, .ref ox_out, .int v4, .int r2, .null] [.int r9] (I10, L4, ab_RR, n, nc6, ns7) res
  refine ab_istore (i := 6) d_W_law_272 (by decide) (Or.inr rfl) ?_
  refine ab_aload_n (i := 2) d_W_law_274 rfl rfl ?_
  obtain ⟨r11, hC, h⟩ := h
  refine ab_callV (me2 := mt_M_thrown) (b := mx) (as := []) (st := []) (rv := (some (.int r11))) (M2 := (I10, L4, ab_RR, n, nc6, ns7)) d_W_law_275 ce_M_thrown v_1550 v_1551 v_1552 (by decide) rfl (Nat.le_of_ble_eq_true rfl) hC (Nat.le_refl _) (Nat.le_refl _) hc hs (fun j h9 => by cases h9) (fun _ _ => rfl) ?_
  show ab_E w (d + 1) mt_W_law 278 [.ref 34, .ref kx, .ref mx, .ref ox_out, .int v4, .int r2, .int r9] [.int r11] (I10, L4, ab_RR, n, nc6, ns7) res
  refine ab_iload (i := 5) d_W_law_278 rfl ?_
  refine ab_icmp_eq (tgt := 285) d_W_law_280 (by decide) (fun c12 => ?_) (fun c12 => ?_)
  · have h := h.1 c12
    refine ab_iload (i := 5) d_W_law_285 rfl ?_
    refine ab_if_ne (tgt := 302) d_W_law_287 (by decide) (fun c13 => ?_) (fun c13 => ?_)
    · have h := h.1 c13
      exact h
    · have h := h.2 c13
      refine ab_aload_n (i := 3) d_W_law_290 rfl rfl ?_
      refine ab_iconst (v := 0) d_W_law_291 rfl ?_
      refine ab_lald d_W_law_292 rfl rfl (by unfold vp_in; decide) ?_
      refine ab_iload (i := 6) d_W_law_293 rfl ?_
      refine ab_i2l d_W_law_295 ?_
      refine ab_lcmp d_W_law_296 ?_
      refine ab_if_eq (tgt := 302) d_W_law_297 (by decide) (fun c14 => ?_) (fun c14 => ?_)
      · have h := h.1 c14
        exact h
      · have h := h.2 c14
        refine ab_iconst (v := 0) d_W_law_300 rfl ?_
        exact ab_iret (ty := .boolean) d_W_law_301 rfl rfl h
  · have h := h.2 c12
    refine ab_iconst (v := 0) d_W_law_283 rfl ?_
    exact ab_iret (ty := .boolean) d_W_law_284 rfl rfl h
theorem q_W_law_302 {w : ab_Wd} {d n nc ns : Nat} {I : Nat → Nat → Int32} {L : Nat → Nat → Int64} {res : ab_Re} (v4 : Int32) (v5 : Int32) (v6 : Int32) (hc : nc ≤ res.2.2.2.2.2.1) (hs : ns ≤ res.2.2.2.2.2.2)
    (h : ab_E w (d + 1) mt_W_law 1658 [.ref 34, .ref kx, .ref mx, .ref ox_out, .int v4, .null, .null] [] (I, L, ab_RR, n, nc, ns) res) : ab_E w (d + 1) mt_W_law 302 [.ref 34, .ref kx, .ref mx, .ref ox_out, .int v4, .int v5, .int v6] [] (I, L, ab_RR, n, nc, ns) res := by
  refine ab_goto (tgt := 1658) d_W_law_302 (by decide) ?_
  refine ab_drop 5 ?_
  refine ab_drop 6 ?_
  exact h
theorem q_W_law_305 {w : ab_Wd} {d n nc ns : Nat} {I : Nat → Nat → Int32} {L : Nat → Nat → Int64} {res : ab_Re} (v4 : Int32) (hc : nc ≤ res.2.2.2.2.2.1) (hs : ns ≤ res.2.2.2.2.2.2)
    (h : ∃ (r1 : Int32), ab_C w d mt_K_fault [.ref kx] (I, L, ab_RR, n, nc, ns) (.inl (some (.int r1)), (I, L, ab_RR, n, nc, ns)) ∧ ∃ (r2 : Int32) (I3 : Nat → Nat → Int32), ab_C w d mt_M_fault [.ref mx] (I, L, ab_RR, n, nc, ns) (.inl (some (.int r2)), (I3, L, ab_RR, n, nc, ns)) ∧ ((r1 = r2 → (ab_E w (d + 1) mt_W_law 1658 [.ref 34, .ref kx, .ref mx, .ref ox_out, .int v4, .null, .null] [] (I3, L, ab_RR, n, nc, ns) res)) ∧ (¬ r1 = r2 → (res = (.inl (some (.int 0)), (I3, L, ab_RR, n, nc, ns)))))) : ab_E w (d + 1) mt_W_law 305 [.ref 34, .ref kx, .ref mx, .ref ox_out, .int v4, .null, .null] [] (I, L, ab_RR, n, nc, ns) res := by
  refine ab_aload_n (i := 1) d_W_law_305 rfl rfl ?_
  obtain ⟨r1, hC, h⟩ := h
  refine ab_callV (me2 := mt_K_fault) (b := kx) (as := []) (st := []) (rv := (some (.int r1))) (M2 := (I, L, ab_RR, n, nc, ns)) d_W_law_306 ce_K_fault v_523 v_524 v_525 (by decide) rfl (Nat.le_of_ble_eq_true rfl) hC (Nat.le_refl _) (Nat.le_refl _) hc hs (fun j h9 => by cases h9) (fun _ _ => rfl) ?_
  show ab_E w (d + 1) mt_W_law 309 [.ref 34, .ref kx, .ref mx, .ref ox_out, .int v4, .null, .null] [.int r1] (I, L, ab_RR, n, nc, ns) res
  refine ab_aload_n (i := 2) d_W_law_309 rfl rfl ?_
  obtain ⟨r2, I3, hC, h⟩ := h
  refine ab_callV (me2 := mt_M_fault) (b := mx) (as := []) (st := [.int r1]) (rv := (some (.int r2))) (M2 := (I3, L, ab_RR, n, nc, ns)) d_W_law_310 ce_M_fault v_1627 v_1628 v_1629 (by decide) rfl (Nat.le_of_ble_eq_true rfl) hC (Nat.le_refl _) (Nat.le_refl _) hc hs (fun j h9 => by cases h9) (fun _ _ => rfl) ?_
  show ab_E w (d + 1) mt_W_law 313 [.ref 34, .ref kx, .ref mx, .ref ox_out, .int v4, .null, .null] [.int r2, .int r1] (I3, L, ab_RR, n, nc, ns) res
  refine ab_icmp_eq (tgt := 1658) d_W_law_313 (by decide) (fun c4 => ?_) (fun c4 => ?_)
  · have h := h.1 c4
    exact h
  · have h := h.2 c4
    refine ab_iconst (v := 0) d_W_law_316 rfl ?_
    exact ab_iret (ty := .boolean) d_W_law_317 rfl rfl h
theorem q_W_law_318 {w : ab_Wd} {d n nc ns : Nat} {I : Nat → Nat → Int32} {L : Nat → Nat → Int64} {res : ab_Re} (v4 : Int32) (hc : nc ≤ res.2.2.2.2.2.1) (hs : ns ≤ res.2.2.2.2.2.2)
    (h : (vp_in (v4 + 1) w.2.2.2.2.1) ∧ ∃ (r2 : Int32) (I3 : Nat → Nat → Int32) (L4 : Nat → Nat → Int64) (n5 nc6 ns7 : Nat), (ab_CH w d mt_W_count [.ref kx, .int (w.2.2.2.2.2.1 (v4 + 1).toNatClampNeg), .ref ox_out] (I, L, ab_RR, n, nc, ns) (.inl (some (.int r2)), (I3, L4, ab_RR, n5, nc6, ns7)) ∧ nc ≤ nc6 ∧ ns ≤ ns7 ∧ nc6 ≤ res.2.2.2.2.2.1 ∧ ns7 ≤ res.2.2.2.2.2.2) ∧ (vp_in (v4 + 1) w.2.2.2.2.1) ∧ ∃ (r9 : Int32) (I10 : Nat → Nat → Int32), ab_C w d mt_M_count [.ref mx, .int (w.2.2.2.2.2.1 (v4 + 1).toNatClampNeg)] (I3, L4, ab_RR, n, nc6, ns7) (.inl (some (.int r9)), (I10, L4, ab_RR, n, nc6, ns7)) ∧ ∃ (r11 : Int32), ab_C w d mt_M_thrown [.ref mx] (I10, L4, ab_RR, n, nc6, ns7) (.inl (some (.int r11)), (I10, L4, ab_RR, n, nc6, ns7)) ∧ ((r11 = r2 → ((¬ r2 = 0 → (ab_E w (d + 1) mt_W_law 371 [.ref 34, .ref kx, .ref mx, .ref ox_out, .int v4, .int r2, .int r9] [] (I10, L4, ab_RR, n, nc6, ns7) res)) ∧ (r2 = 0 → (((lg_cmp (L4 ox_out 0) (Int32.toInt64 r9)) = 0 → (ab_E w (d + 1) mt_W_law 371 [.ref 34, .ref kx, .ref mx, .ref ox_out, .int v4, .int r2, .int r9] [] (I10, L4, ab_RR, n, nc6, ns7) res)) ∧ (¬ (lg_cmp (L4 ox_out 0) (Int32.toInt64 r9)) = 0 → (res = (.inl (some (.int 0)), (I10, L4, ab_RR, n, nc6, ns7)))))))) ∧ (¬ r11 = r2 → (res = (.inl (some (.int 0)), (I10, L4, ab_RR, n, nc6, ns7)))))) : ab_E w (d + 1) mt_W_law 318 [.ref 34, .ref kx, .ref mx, .ref ox_out, .int v4, .null, .null] [] (I, L, ab_RR, n, nc, ns) res := by
  refine ab_aload_n (i := 1) d_W_law_318 rfl rfl ?_
  refine ab_aload_n (i := 0) d_W_law_319 rfl rfl ?_
  refine ab_iload (i := 4) d_W_law_320 rfl ?_
  refine ab_iconst (v := 1) d_W_law_322 rfl ?_
  refine ab_iadd d_W_law_323 ?_
  have g1 := h.1; have h := h.2
  refine ab_sald d_W_law_324 g1 ?_
  refine ab_aload_n (i := 3) d_W_law_325 rfl rfl ?_
  obtain ⟨r2, I3, L4, n5, nc6, ns7, ⟨hC, l1, l2, hc, hs⟩, h⟩ := h
  refine ab_callSH (me2 := mt_W_count) (as := [.ref kx, .int (w.2.2.2.2.2.1 (v4 + 1).toNatClampNeg), .ref ox_out]) (st := []) (rv := some (.int r2)) (M2 := (I3, L4, ab_RR, n5, nc6, ns7)) d_W_law_326 v_921 v_139 ⟨by decide, by decide, (show (parseMethodDescriptor mt_W_count.1.desc).map (fun d => d.parameters.length) = some 3 from by decide +kernel)⟩ (by decide) v_919 v_920 (Nat.le_of_ble_eq_true rfl) hC l1 l2 hc hs (fun j h9 => by cases h9) (fun _ _ => rfl) ?_
  show ab_E w (d + 1) mt_W_law 329 [.ref 34, .ref kx, .ref mx, .ref ox_out, .int v4, .null, .null] [.int r2] (I3, L4, ab_RR, n, nc6, ns7) res
  refine ab_istore (i := 5) d_W_law_329 (by decide) (Or.inr rfl) ?_
  refine ab_aload_n (i := 2) d_W_law_331 rfl rfl ?_
  refine ab_aload_n (i := 0) d_W_law_332 rfl rfl ?_
  refine ab_iload (i := 4) d_W_law_333 rfl ?_
  refine ab_iconst (v := 1) d_W_law_335 rfl ?_
  refine ab_iadd d_W_law_336 ?_
  have g8 := h.1; have h := h.2
  refine ab_sald d_W_law_337 g8 ?_
  obtain ⟨r9, I10, hC, h⟩ := h
  refine ab_callV (me2 := mt_M_count) (b := mx) (as := [.int (w.2.2.2.2.2.1 (v4 + 1).toNatClampNeg)]) (st := []) (rv := (some (.int r9))) (M2 := (I10, L4, ab_RR, n, nc6, ns7)) d_W_law_338 ce_M_count v_1631 v_1632 v_1633 (by decide) rfl (Nat.le_of_ble_eq_true rfl) hC (Nat.le_refl _) (Nat.le_refl _) hc hs (fun j h9 => by cases h9) (fun _ _ => rfl) ?_
  show ab_E w (d + 1) mt_W_law 341 [.ref 34, .ref kx, .ref mx, .ref ox_out, .int v4, .int r2, .null] [.int r9] (I10, L4, ab_RR, n, nc6, ns7) res
  refine ab_istore (i := 6) d_W_law_341 (by decide) (Or.inr rfl) ?_
  refine ab_aload_n (i := 2) d_W_law_343 rfl rfl ?_
  obtain ⟨r11, hC, h⟩ := h
  refine ab_callV (me2 := mt_M_thrown) (b := mx) (as := []) (st := []) (rv := (some (.int r11))) (M2 := (I10, L4, ab_RR, n, nc6, ns7)) d_W_law_344 ce_M_thrown v_1550 v_1551 v_1552 (by decide) rfl (Nat.le_of_ble_eq_true rfl) hC (Nat.le_refl _) (Nat.le_refl _) hc hs (fun j h9 => by cases h9) (fun _ _ => rfl) ?_
  show ab_E w (d + 1) mt_W_law 347 [.ref 34, .ref kx, .ref mx, .ref ox_out, .int v4, .int r2, .int r9] [.int r11] (I10, L4, ab_RR, n, nc6, ns7) res
  refine ab_iload (i := 5) d_W_law_347 rfl ?_
  refine ab_icmp_eq (tgt := 354) d_W_law_349 (by decide) (fun c12 => ?_) (fun c12 => ?_)
  · have h := h.1 c12
    refine ab_iload (i := 5) d_W_law_354 rfl ?_
    refine ab_if_ne (tgt := 371) d_W_law_356 (by decide) (fun c13 => ?_) (fun c13 => ?_)
    · have h := h.1 c13
      exact h
    · have h := h.2 c13
      refine ab_aload_n (i := 3) d_W_law_359 rfl rfl ?_
      refine ab_iconst (v := 0) d_W_law_360 rfl ?_
      refine ab_lald d_W_law_361 rfl rfl (by unfold vp_in; decide) ?_
      refine ab_iload (i := 6) d_W_law_362 rfl ?_
      refine ab_i2l d_W_law_364 ?_
      refine ab_lcmp d_W_law_365 ?_
      refine ab_if_eq (tgt := 371) d_W_law_366 (by decide) (fun c14 => ?_) (fun c14 => ?_)
      · have h := h.1 c14
        exact h
      · have h := h.2 c14
        refine ab_iconst (v := 0) d_W_law_369 rfl ?_
        exact ab_iret (ty := .boolean) d_W_law_370 rfl rfl h
  · have h := h.2 c12
    refine ab_iconst (v := 0) d_W_law_352 rfl ?_
    exact ab_iret (ty := .boolean) d_W_law_353 rfl rfl h
theorem q_W_law_371 {w : ab_Wd} {d n nc ns : Nat} {I : Nat → Nat → Int32} {L : Nat → Nat → Int64} {res : ab_Re} (v4 : Int32) (v5 : Int32) (v6 : Int32) (hc : nc ≤ res.2.2.2.2.2.1) (hs : ns ≤ res.2.2.2.2.2.2)
    (h : ab_E w (d + 1) mt_W_law 1658 [.ref 34, .ref kx, .ref mx, .ref ox_out, .int v4, .null, .null] [] (I, L, ab_RR, n, nc, ns) res) : ab_E w (d + 1) mt_W_law 371 [.ref 34, .ref kx, .ref mx, .ref ox_out, .int v4, .int v5, .int v6] [] (I, L, ab_RR, n, nc, ns) res := by
  refine ab_goto (tgt := 1658) d_W_law_371 (by decide) ?_
  refine ab_drop 5 ?_
  refine ab_drop 6 ?_
  exact h
theorem q_W_law_374 {w : ab_Wd} {d n nc ns : Nat} {I : Nat → Nat → Int32} {L : Nat → Nat → Int64} {res : ab_Re} (v4 : Int32) (hc : nc ≤ res.2.2.2.2.2.1) (hs : ns ≤ res.2.2.2.2.2.2)
    (h : (vp_in (v4 + 1) w.2.2.2.2.1) ∧ (vp_in (v4 + 2) w.2.2.2.2.1) ∧ ∃ (r3 : Int32) (I4 : Nat → Nat → Int32) (L5 : Nat → Nat → Int64) (n6 nc7 ns8 : Nat), (ab_CH w d mt_W_cable [.ref kx, .int (w.2.2.2.2.2.1 (v4 + 1).toNatClampNeg), .int (w.2.2.2.2.2.1 (v4 + 2).toNatClampNeg), .ref ox_out] (I, L, ab_RR, n, nc, ns) (.inl (some (.int r3)), (I4, L5, ab_RR, n6, nc7, ns8)) ∧ nc ≤ nc7 ∧ ns ≤ ns8 ∧ nc7 ≤ res.2.2.2.2.2.1 ∧ ns8 ≤ res.2.2.2.2.2.2) ∧ (vp_in (v4 + 1) w.2.2.2.2.1) ∧ (vp_in (v4 + 2) w.2.2.2.2.1) ∧ ∃ (r11 : Int32) (I12 : Nat → Nat → Int32), ab_C w d mt_M_cable [.ref mx, .int (w.2.2.2.2.2.1 (v4 + 1).toNatClampNeg), .int (w.2.2.2.2.2.1 (v4 + 2).toNatClampNeg)] (I4, L5, ab_RR, n, nc7, ns8) (.inl (some (.int r11)), (I12, L5, ab_RR, n, nc7, ns8)) ∧ ∃ (r13 : Int32), ab_C w d mt_M_thrown [.ref mx] (I12, L5, ab_RR, n, nc7, ns8) (.inl (some (.int r13)), (I12, L5, ab_RR, n, nc7, ns8)) ∧ ((r13 = r3 → ((¬ r3 = 0 → (ab_E w (d + 1) mt_W_law 439 [.ref 34, .ref kx, .ref mx, .ref ox_out, .int v4, .int r3, .int r11] [] (I12, L5, ab_RR, n, nc7, ns8) res)) ∧ (r3 = 0 → (((lg_cmp (L5 ox_out 0) (Int32.toInt64 r11)) = 0 → (ab_E w (d + 1) mt_W_law 439 [.ref 34, .ref kx, .ref mx, .ref ox_out, .int v4, .int r3, .int r11] [] (I12, L5, ab_RR, n, nc7, ns8) res)) ∧ (¬ (lg_cmp (L5 ox_out 0) (Int32.toInt64 r11)) = 0 → (res = (.inl (some (.int 0)), (I12, L5, ab_RR, n, nc7, ns8)))))))) ∧ (¬ r13 = r3 → (res = (.inl (some (.int 0)), (I12, L5, ab_RR, n, nc7, ns8)))))) : ab_E w (d + 1) mt_W_law 374 [.ref 34, .ref kx, .ref mx, .ref ox_out, .int v4, .null, .null] [] (I, L, ab_RR, n, nc, ns) res := by
  refine ab_aload_n (i := 1) d_W_law_374 rfl rfl ?_
  refine ab_aload_n (i := 0) d_W_law_375 rfl rfl ?_
  refine ab_iload (i := 4) d_W_law_376 rfl ?_
  refine ab_iconst (v := 1) d_W_law_378 rfl ?_
  refine ab_iadd d_W_law_379 ?_
  have g1 := h.1; have h := h.2
  refine ab_sald d_W_law_380 g1 ?_
  refine ab_aload_n (i := 0) d_W_law_381 rfl rfl ?_
  refine ab_iload (i := 4) d_W_law_382 rfl ?_
  refine ab_iconst (v := 2) d_W_law_384 rfl ?_
  refine ab_iadd d_W_law_385 ?_
  have g2 := h.1; have h := h.2
  refine ab_sald d_W_law_386 g2 ?_
  refine ab_aload_n (i := 3) d_W_law_387 rfl rfl ?_
  obtain ⟨r3, I4, L5, n6, nc7, ns8, ⟨hC, l1, l2, hc, hs⟩, h⟩ := h
  refine ab_callSH (me2 := mt_W_cable) (as := [.ref kx, .int (w.2.2.2.2.2.1 (v4 + 1).toNatClampNeg), .int (w.2.2.2.2.2.1 (v4 + 2).toNatClampNeg), .ref ox_out]) (st := []) (rv := some (.int r3)) (M2 := (I4, L5, ab_RR, n6, nc7, ns8)) d_W_law_388 v_1066 v_139 ⟨by decide, by decide, (show (parseMethodDescriptor mt_W_cable.1.desc).map (fun d => d.parameters.length) = some 4 from by decide +kernel)⟩ (by decide) v_1064 v_1065 (Nat.le_of_ble_eq_true rfl) hC l1 l2 hc hs (fun j h9 => by cases h9) (fun _ _ => rfl) ?_
  show ab_E w (d + 1) mt_W_law 391 [.ref 34, .ref kx, .ref mx, .ref ox_out, .int v4, .null, .null] [.int r3] (I4, L5, ab_RR, n, nc7, ns8) res
  refine ab_istore (i := 5) d_W_law_391 (by decide) (Or.inr rfl) ?_
  refine ab_aload_n (i := 2) d_W_law_393 rfl rfl ?_
  refine ab_aload_n (i := 0) d_W_law_394 rfl rfl ?_
  refine ab_iload (i := 4) d_W_law_395 rfl ?_
  refine ab_iconst (v := 1) d_W_law_397 rfl ?_
  refine ab_iadd d_W_law_398 ?_
  have g9 := h.1; have h := h.2
  refine ab_sald d_W_law_399 g9 ?_
  refine ab_aload_n (i := 0) d_W_law_400 rfl rfl ?_
  refine ab_iload (i := 4) d_W_law_401 rfl ?_
  refine ab_iconst (v := 2) d_W_law_403 rfl ?_
  refine ab_iadd d_W_law_404 ?_
  have g10 := h.1; have h := h.2
  refine ab_sald d_W_law_405 g10 ?_
  obtain ⟨r11, I12, hC, h⟩ := h
  refine ab_callV (me2 := mt_M_cable) (b := mx) (as := [.int (w.2.2.2.2.2.1 (v4 + 1).toNatClampNeg), .int (w.2.2.2.2.2.1 (v4 + 2).toNatClampNeg)]) (st := []) (rv := (some (.int r11))) (M2 := (I12, L5, ab_RR, n, nc7, ns8)) d_W_law_406 ce_M_cable v_1744 v_1745 v_1746 (by decide) rfl (Nat.le_of_ble_eq_true rfl) hC (Nat.le_refl _) (Nat.le_refl _) hc hs (fun j h9 => by cases h9) (fun _ _ => rfl) ?_
  show ab_E w (d + 1) mt_W_law 409 [.ref 34, .ref kx, .ref mx, .ref ox_out, .int v4, .int r3, .null] [.int r11] (I12, L5, ab_RR, n, nc7, ns8) res
  refine ab_istore (i := 6) d_W_law_409 (by decide) (Or.inr rfl) ?_
  refine ab_aload_n (i := 2) d_W_law_411 rfl rfl ?_
  obtain ⟨r13, hC, h⟩ := h
  refine ab_callV (me2 := mt_M_thrown) (b := mx) (as := []) (st := []) (rv := (some (.int r13))) (M2 := (I12, L5, ab_RR, n, nc7, ns8)) d_W_law_412 ce_M_thrown v_1550 v_1551 v_1552 (by decide) rfl (Nat.le_of_ble_eq_true rfl) hC (Nat.le_refl _) (Nat.le_refl _) hc hs (fun j h9 => by cases h9) (fun _ _ => rfl) ?_
  show ab_E w (d + 1) mt_W_law 415 [.ref 34, .ref kx, .ref mx, .ref ox_out, .int v4, .int r3, .int r11] [.int r13] (I12, L5, ab_RR, n, nc7, ns8) res
  refine ab_iload (i := 5) d_W_law_415 rfl ?_
  refine ab_icmp_eq (tgt := 422) d_W_law_417 (by decide) (fun c14 => ?_) (fun c14 => ?_)
  · have h := h.1 c14
    refine ab_iload (i := 5) d_W_law_422 rfl ?_
    refine ab_if_ne (tgt := 439) d_W_law_424 (by decide) (fun c15 => ?_) (fun c15 => ?_)
    · have h := h.1 c15
      exact h
    · have h := h.2 c15
      refine ab_aload_n (i := 3) d_W_law_427 rfl rfl ?_
      refine ab_iconst (v := 0) d_W_law_428 rfl ?_
      refine ab_lald d_W_law_429 rfl rfl (by unfold vp_in; decide) ?_
      refine ab_iload (i := 6) d_W_law_430 rfl ?_
      refine ab_i2l d_W_law_432 ?_
      refine ab_lcmp d_W_law_433 ?_
      refine ab_if_eq (tgt := 439) d_W_law_434 (by decide) (fun c16 => ?_) (fun c16 => ?_)
      · have h := h.1 c16
        exact h
      · have h := h.2 c16
        refine ab_iconst (v := 0) d_W_law_437 rfl ?_
        exact ab_iret (ty := .boolean) d_W_law_438 rfl rfl h
  · have h := h.2 c14
    refine ab_iconst (v := 0) d_W_law_420 rfl ?_
    exact ab_iret (ty := .boolean) d_W_law_421 rfl rfl h
theorem q_W_law_439 {w : ab_Wd} {d n nc ns : Nat} {I : Nat → Nat → Int32} {L : Nat → Nat → Int64} {res : ab_Re} (v4 : Int32) (v5 : Int32) (v6 : Int32) (hc : nc ≤ res.2.2.2.2.2.1) (hs : ns ≤ res.2.2.2.2.2.2)
    (h : ab_E w (d + 1) mt_W_law 1658 [.ref 34, .ref kx, .ref mx, .ref ox_out, .int v4, .null, .null] [] (I, L, ab_RR, n, nc, ns) res) : ab_E w (d + 1) mt_W_law 439 [.ref 34, .ref kx, .ref mx, .ref ox_out, .int v4, .int v5, .int v6] [] (I, L, ab_RR, n, nc, ns) res := by
  refine ab_goto (tgt := 1658) d_W_law_439 (by decide) ?_
  refine ab_drop 5 ?_
  refine ab_drop 6 ?_
  exact h
theorem q_W_law_442 {w : ab_Wd} {d n nc ns : Nat} {I : Nat → Nat → Int32} {L : Nat → Nat → Int64} {res : ab_Re} (v4 : Int32) (hc : nc ≤ res.2.2.2.2.2.1) (hs : ns ≤ res.2.2.2.2.2.2)
    (h : (vp_in (v4 + 1) w.2.2.2.2.1) ∧ (vp_in (v4 + 2) w.2.2.2.2.1) ∧ ∃ (r3 : Int32) (I4 : Nat → Nat → Int32) (L5 : Nat → Nat → Int64) (n6 nc7 ns8 : Nat), (ab_CH w d mt_W_ring [.ref kx, .int (w.2.2.2.2.2.1 (v4 + 1).toNatClampNeg), .int (w.2.2.2.2.2.1 (v4 + 2).toNatClampNeg), .ref ox_out] (I, L, ab_RR, n, nc, ns) (.inl (some (.int r3)), (I4, L5, ab_RR, n6, nc7, ns8)) ∧ nc ≤ nc7 ∧ ns ≤ ns8 ∧ nc7 ≤ res.2.2.2.2.2.1 ∧ ns8 ≤ res.2.2.2.2.2.2) ∧ (vp_in (v4 + 1) w.2.2.2.2.1) ∧ (vp_in (v4 + 2) w.2.2.2.2.1) ∧ ∃ (r11 : Int32) (I12 : Nat → Nat → Int32), ab_C w d mt_M_ring [.ref mx, .int (w.2.2.2.2.2.1 (v4 + 1).toNatClampNeg), .int (w.2.2.2.2.2.1 (v4 + 2).toNatClampNeg)] (I4, L5, ab_RR, n, nc7, ns8) (.inl (some (.int r11)), (I12, L5, ab_RR, n, nc7, ns8)) ∧ ∃ (r13 : Int32), ab_C w d mt_M_thrown [.ref mx] (I12, L5, ab_RR, n, nc7, ns8) (.inl (some (.int r13)), (I12, L5, ab_RR, n, nc7, ns8)) ∧ ((r13 = r3 → ((¬ r3 = 0 → (ab_E w (d + 1) mt_W_law 507 [.ref 34, .ref kx, .ref mx, .ref ox_out, .int v4, .int r3, .int r11] [] (I12, L5, ab_RR, n, nc7, ns8) res)) ∧ (r3 = 0 → (((lg_cmp (L5 ox_out 0) (Int32.toInt64 r11)) = 0 → (ab_E w (d + 1) mt_W_law 507 [.ref 34, .ref kx, .ref mx, .ref ox_out, .int v4, .int r3, .int r11] [] (I12, L5, ab_RR, n, nc7, ns8) res)) ∧ (¬ (lg_cmp (L5 ox_out 0) (Int32.toInt64 r11)) = 0 → (res = (.inl (some (.int 0)), (I12, L5, ab_RR, n, nc7, ns8)))))))) ∧ (¬ r13 = r3 → (res = (.inl (some (.int 0)), (I12, L5, ab_RR, n, nc7, ns8)))))) : ab_E w (d + 1) mt_W_law 442 [.ref 34, .ref kx, .ref mx, .ref ox_out, .int v4, .null, .null] [] (I, L, ab_RR, n, nc, ns) res := by
  refine ab_aload_n (i := 1) d_W_law_442 rfl rfl ?_
  refine ab_aload_n (i := 0) d_W_law_443 rfl rfl ?_
  refine ab_iload (i := 4) d_W_law_444 rfl ?_
  refine ab_iconst (v := 1) d_W_law_446 rfl ?_
  refine ab_iadd d_W_law_447 ?_
  have g1 := h.1; have h := h.2
  refine ab_sald d_W_law_448 g1 ?_
  refine ab_aload_n (i := 0) d_W_law_449 rfl rfl ?_
  refine ab_iload (i := 4) d_W_law_450 rfl ?_
  refine ab_iconst (v := 2) d_W_law_452 rfl ?_
  refine ab_iadd d_W_law_453 ?_
  have g2 := h.1; have h := h.2
  refine ab_sald d_W_law_454 g2 ?_
  refine ab_aload_n (i := 3) d_W_law_455 rfl rfl ?_
  obtain ⟨r3, I4, L5, n6, nc7, ns8, ⟨hC, l1, l2, hc, hs⟩, h⟩ := h
  refine ab_callSH (me2 := mt_W_ring) (as := [.ref kx, .int (w.2.2.2.2.2.1 (v4 + 1).toNatClampNeg), .int (w.2.2.2.2.2.1 (v4 + 2).toNatClampNeg), .ref ox_out]) (st := []) (rv := some (.int r3)) (M2 := (I4, L5, ab_RR, n6, nc7, ns8)) d_W_law_456 v_1101 v_139 ⟨by decide, by decide, (show (parseMethodDescriptor mt_W_ring.1.desc).map (fun d => d.parameters.length) = some 4 from by decide +kernel)⟩ (by decide) v_1099 v_1100 (Nat.le_of_ble_eq_true rfl) hC l1 l2 hc hs (fun j h9 => by cases h9) (fun _ _ => rfl) ?_
  show ab_E w (d + 1) mt_W_law 459 [.ref 34, .ref kx, .ref mx, .ref ox_out, .int v4, .null, .null] [.int r3] (I4, L5, ab_RR, n, nc7, ns8) res
  refine ab_istore (i := 5) d_W_law_459 (by decide) (Or.inr rfl) ?_
  refine ab_aload_n (i := 2) d_W_law_461 rfl rfl ?_
  refine ab_aload_n (i := 0) d_W_law_462 rfl rfl ?_
  refine ab_iload (i := 4) d_W_law_463 rfl ?_
  refine ab_iconst (v := 1) d_W_law_465 rfl ?_
  refine ab_iadd d_W_law_466 ?_
  have g9 := h.1; have h := h.2
  refine ab_sald d_W_law_467 g9 ?_
  refine ab_aload_n (i := 0) d_W_law_468 rfl rfl ?_
  refine ab_iload (i := 4) d_W_law_469 rfl ?_
  refine ab_iconst (v := 2) d_W_law_471 rfl ?_
  refine ab_iadd d_W_law_472 ?_
  have g10 := h.1; have h := h.2
  refine ab_sald d_W_law_473 g10 ?_
  obtain ⟨r11, I12, hC, h⟩ := h
  refine ab_callV (me2 := mt_M_ring) (b := mx) (as := [.int (w.2.2.2.2.2.1 (v4 + 1).toNatClampNeg), .int (w.2.2.2.2.2.1 (v4 + 2).toNatClampNeg)]) (st := []) (rv := (some (.int r11))) (M2 := (I12, L5, ab_RR, n, nc7, ns8)) d_W_law_474 ce_M_ring v_1771 v_1772 v_1773 (by decide) rfl (Nat.le_of_ble_eq_true rfl) hC (Nat.le_refl _) (Nat.le_refl _) hc hs (fun j h9 => by cases h9) (fun _ _ => rfl) ?_
  show ab_E w (d + 1) mt_W_law 477 [.ref 34, .ref kx, .ref mx, .ref ox_out, .int v4, .int r3, .null] [.int r11] (I12, L5, ab_RR, n, nc7, ns8) res
  refine ab_istore (i := 6) d_W_law_477 (by decide) (Or.inr rfl) ?_
  refine ab_aload_n (i := 2) d_W_law_479 rfl rfl ?_
  obtain ⟨r13, hC, h⟩ := h
  refine ab_callV (me2 := mt_M_thrown) (b := mx) (as := []) (st := []) (rv := (some (.int r13))) (M2 := (I12, L5, ab_RR, n, nc7, ns8)) d_W_law_480 ce_M_thrown v_1550 v_1551 v_1552 (by decide) rfl (Nat.le_of_ble_eq_true rfl) hC (Nat.le_refl _) (Nat.le_refl _) hc hs (fun j h9 => by cases h9) (fun _ _ => rfl) ?_
  show ab_E w (d + 1) mt_W_law 483 [.ref 34, .ref kx, .ref mx, .ref ox_out, .int v4, .int r3, .int r11] [.int r13] (I12, L5, ab_RR, n, nc7, ns8) res
  refine ab_iload (i := 5) d_W_law_483 rfl ?_
  refine ab_icmp_eq (tgt := 490) d_W_law_485 (by decide) (fun c14 => ?_) (fun c14 => ?_)
  · have h := h.1 c14
    refine ab_iload (i := 5) d_W_law_490 rfl ?_
    refine ab_if_ne (tgt := 507) d_W_law_492 (by decide) (fun c15 => ?_) (fun c15 => ?_)
    · have h := h.1 c15
      exact h
    · have h := h.2 c15
      refine ab_aload_n (i := 3) d_W_law_495 rfl rfl ?_
      refine ab_iconst (v := 0) d_W_law_496 rfl ?_
      refine ab_lald d_W_law_497 rfl rfl (by unfold vp_in; decide) ?_
      refine ab_iload (i := 6) d_W_law_498 rfl ?_
      refine ab_i2l d_W_law_500 ?_
      refine ab_lcmp d_W_law_501 ?_
      refine ab_if_eq (tgt := 507) d_W_law_502 (by decide) (fun c16 => ?_) (fun c16 => ?_)
      · have h := h.1 c16
        exact h
      · have h := h.2 c16
        refine ab_iconst (v := 0) d_W_law_505 rfl ?_
        exact ab_iret (ty := .boolean) d_W_law_506 rfl rfl h
  · have h := h.2 c14
    refine ab_iconst (v := 0) d_W_law_488 rfl ?_
    exact ab_iret (ty := .boolean) d_W_law_489 rfl rfl h
theorem q_W_law_507 {w : ab_Wd} {d n nc ns : Nat} {I : Nat → Nat → Int32} {L : Nat → Nat → Int64} {res : ab_Re} (v4 : Int32) (v5 : Int32) (v6 : Int32) (hc : nc ≤ res.2.2.2.2.2.1) (hs : ns ≤ res.2.2.2.2.2.2)
    (h : ab_E w (d + 1) mt_W_law 1658 [.ref 34, .ref kx, .ref mx, .ref ox_out, .int v4, .null, .null] [] (I, L, ab_RR, n, nc, ns) res) : ab_E w (d + 1) mt_W_law 507 [.ref 34, .ref kx, .ref mx, .ref ox_out, .int v4, .int v5, .int v6] [] (I, L, ab_RR, n, nc, ns) res := by
  refine ab_goto (tgt := 1658) d_W_law_507 (by decide) ?_
  refine ab_drop 5 ?_
  refine ab_drop 6 ?_
  exact h
theorem q_W_law_510 {w : ab_Wd} {d n nc ns : Nat} {I : Nat → Nat → Int32} {L : Nat → Nat → Int64} {res : ab_Re} (v4 : Int32) (hc : nc ≤ res.2.2.2.2.2.1) (hs : ns ≤ res.2.2.2.2.2.2)
    (h : (vp_in (v4 + 1) w.2.2.2.2.1) ∧ ∃ (r2 : Int32) (I3 : Nat → Nat → Int32) (L4 : Nat → Nat → Int64) (n5 nc6 ns7 : Nat), (ab_CH w d mt_W_taken [.ref kx, .int (w.2.2.2.2.2.1 (v4 + 1).toNatClampNeg), .ref ox_out] (I, L, ab_RR, n, nc, ns) (.inl (some (.int r2)), (I3, L4, ab_RR, n5, nc6, ns7)) ∧ nc ≤ nc6 ∧ ns ≤ ns7 ∧ nc6 ≤ res.2.2.2.2.2.1 ∧ ns7 ≤ res.2.2.2.2.2.2) ∧ (vp_in (v4 + 1) w.2.2.2.2.1) ∧ ∃ (r9 : Int32) (I10 : Nat → Nat → Int32), ab_C w d mt_M_taken [.ref mx, .int (w.2.2.2.2.2.1 (v4 + 1).toNatClampNeg)] (I3, L4, ab_RR, n, nc6, ns7) (.inl (some (.int r9)), (I10, L4, ab_RR, n, nc6, ns7)) ∧ ∃ (r11 : Int32), ab_C w d mt_M_thrown [.ref mx] (I10, L4, ab_RR, n, nc6, ns7) (.inl (some (.int r11)), (I10, L4, ab_RR, n, nc6, ns7)) ∧ ((r11 = r2 → ((¬ r2 = 0 → (ab_E w (d + 1) mt_W_law 563 [.ref 34, .ref kx, .ref mx, .ref ox_out, .int v4, .int r2, .int r9] [] (I10, L4, ab_RR, n, nc6, ns7) res)) ∧ (r2 = 0 → (((lg_cmp (L4 ox_out 0) (Int32.toInt64 r9)) = 0 → (ab_E w (d + 1) mt_W_law 563 [.ref 34, .ref kx, .ref mx, .ref ox_out, .int v4, .int r2, .int r9] [] (I10, L4, ab_RR, n, nc6, ns7) res)) ∧ (¬ (lg_cmp (L4 ox_out 0) (Int32.toInt64 r9)) = 0 → (res = (.inl (some (.int 0)), (I10, L4, ab_RR, n, nc6, ns7)))))))) ∧ (¬ r11 = r2 → (res = (.inl (some (.int 0)), (I10, L4, ab_RR, n, nc6, ns7)))))) : ab_E w (d + 1) mt_W_law 510 [.ref 34, .ref kx, .ref mx, .ref ox_out, .int v4, .null, .null] [] (I, L, ab_RR, n, nc, ns) res := by
  refine ab_aload_n (i := 1) d_W_law_510 rfl rfl ?_
  refine ab_aload_n (i := 0) d_W_law_511 rfl rfl ?_
  refine ab_iload (i := 4) d_W_law_512 rfl ?_
  refine ab_iconst (v := 1) d_W_law_514 rfl ?_
  refine ab_iadd d_W_law_515 ?_
  have g1 := h.1; have h := h.2
  refine ab_sald d_W_law_516 g1 ?_
  refine ab_aload_n (i := 3) d_W_law_517 rfl rfl ?_
  obtain ⟨r2, I3, L4, n5, nc6, ns7, ⟨hC, l1, l2, hc, hs⟩, h⟩ := h
  refine ab_callSH (me2 := mt_W_taken) (as := [.ref kx, .int (w.2.2.2.2.2.1 (v4 + 1).toNatClampNeg), .ref ox_out]) (st := []) (rv := some (.int r2)) (M2 := (I3, L4, ab_RR, n5, nc6, ns7)) d_W_law_518 v_1112 v_139 ⟨by decide, by decide, (show (parseMethodDescriptor mt_W_taken.1.desc).map (fun d => d.parameters.length) = some 3 from by decide +kernel)⟩ (by decide) v_1110 v_1111 (Nat.le_of_ble_eq_true rfl) hC l1 l2 hc hs (fun j h9 => by cases h9) (fun _ _ => rfl) ?_
  show ab_E w (d + 1) mt_W_law 521 [.ref 34, .ref kx, .ref mx, .ref ox_out, .int v4, .null, .null] [.int r2] (I3, L4, ab_RR, n, nc6, ns7) res
  refine ab_istore (i := 5) d_W_law_521 (by decide) (Or.inr rfl) ?_
  refine ab_aload_n (i := 2) d_W_law_523 rfl rfl ?_
  refine ab_aload_n (i := 0) d_W_law_524 rfl rfl ?_
  refine ab_iload (i := 4) d_W_law_525 rfl ?_
  refine ab_iconst (v := 1) d_W_law_527 rfl ?_
  refine ab_iadd d_W_law_528 ?_
  have g8 := h.1; have h := h.2
  refine ab_sald d_W_law_529 g8 ?_
  obtain ⟨r9, I10, hC, h⟩ := h
  refine ab_callV (me2 := mt_M_taken) (b := mx) (as := [.int (w.2.2.2.2.2.1 (v4 + 1).toNatClampNeg)]) (st := []) (rv := (some (.int r9))) (M2 := (I10, L4, ab_RR, n, nc6, ns7)) d_W_law_530 ce_M_taken v_1775 v_1776 v_1777 (by decide) rfl (Nat.le_of_ble_eq_true rfl) hC (Nat.le_refl _) (Nat.le_refl _) hc hs (fun j h9 => by cases h9) (fun _ _ => rfl) ?_
  show ab_E w (d + 1) mt_W_law 533 [.ref 34, .ref kx, .ref mx, .ref ox_out, .int v4, .int r2, .null] [.int r9] (I10, L4, ab_RR, n, nc6, ns7) res
  refine ab_istore (i := 6) d_W_law_533 (by decide) (Or.inr rfl) ?_
  refine ab_aload_n (i := 2) d_W_law_535 rfl rfl ?_
  obtain ⟨r11, hC, h⟩ := h
  refine ab_callV (me2 := mt_M_thrown) (b := mx) (as := []) (st := []) (rv := (some (.int r11))) (M2 := (I10, L4, ab_RR, n, nc6, ns7)) d_W_law_536 ce_M_thrown v_1550 v_1551 v_1552 (by decide) rfl (Nat.le_of_ble_eq_true rfl) hC (Nat.le_refl _) (Nat.le_refl _) hc hs (fun j h9 => by cases h9) (fun _ _ => rfl) ?_
  show ab_E w (d + 1) mt_W_law 539 [.ref 34, .ref kx, .ref mx, .ref ox_out, .int v4, .int r2, .int r9] [.int r11] (I10, L4, ab_RR, n, nc6, ns7) res
  refine ab_iload (i := 5) d_W_law_539 rfl ?_
  refine ab_icmp_eq (tgt := 546) d_W_law_541 (by decide) (fun c12 => ?_) (fun c12 => ?_)
  · have h := h.1 c12
    refine ab_iload (i := 5) d_W_law_546 rfl ?_
    refine ab_if_ne (tgt := 563) d_W_law_548 (by decide) (fun c13 => ?_) (fun c13 => ?_)
    · have h := h.1 c13
      exact h
    · have h := h.2 c13
      refine ab_aload_n (i := 3) d_W_law_551 rfl rfl ?_
      refine ab_iconst (v := 0) d_W_law_552 rfl ?_
      refine ab_lald d_W_law_553 rfl rfl (by unfold vp_in; decide) ?_
      refine ab_iload (i := 6) d_W_law_554 rfl ?_
      refine ab_i2l d_W_law_556 ?_
      refine ab_lcmp d_W_law_557 ?_
      refine ab_if_eq (tgt := 563) d_W_law_558 (by decide) (fun c14 => ?_) (fun c14 => ?_)
      · have h := h.1 c14
        exact h
      · have h := h.2 c14
        refine ab_iconst (v := 0) d_W_law_561 rfl ?_
        exact ab_iret (ty := .boolean) d_W_law_562 rfl rfl h
  · have h := h.2 c12
    refine ab_iconst (v := 0) d_W_law_544 rfl ?_
    exact ab_iret (ty := .boolean) d_W_law_545 rfl rfl h
theorem q_W_law_563 {w : ab_Wd} {d n nc ns : Nat} {I : Nat → Nat → Int32} {L : Nat → Nat → Int64} {res : ab_Re} (v4 : Int32) (v5 : Int32) (v6 : Int32) (hc : nc ≤ res.2.2.2.2.2.1) (hs : ns ≤ res.2.2.2.2.2.2)
    (h : ab_E w (d + 1) mt_W_law 1658 [.ref 34, .ref kx, .ref mx, .ref ox_out, .int v4, .null, .null] [] (I, L, ab_RR, n, nc, ns) res) : ab_E w (d + 1) mt_W_law 563 [.ref 34, .ref kx, .ref mx, .ref ox_out, .int v4, .int v5, .int v6] [] (I, L, ab_RR, n, nc, ns) res := by
  refine ab_goto (tgt := 1658) d_W_law_563 (by decide) ?_
  refine ab_drop 5 ?_
  refine ab_drop 6 ?_
  exact h
