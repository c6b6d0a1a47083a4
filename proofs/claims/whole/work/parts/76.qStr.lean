theorem d_Str_charAt_0 : decode (ab_bc mt_Str_charAt) 0 = .ok (.aload_n 0, 1) := by decide +kernel
theorem d_Str_charAt_1 : decode (ab_bc mt_Str_charAt) 1 = .ok (.invokevirtual 492, 3) := by decide +kernel
theorem d_Str_charAt_4 : decode (ab_bc mt_Str_charAt) 4 = .ok (.ifCond .eq 12, 3) := by decide +kernel
theorem d_Str_charAt_7 : decode (ab_bc mt_Str_charAt) 7 = .ok (.aload_n 0, 1) := by decide +kernel
theorem d_Str_charAt_8 : decode (ab_bc mt_Str_charAt) 8 = .ok (.getfield 9, 3) := by decide +kernel
theorem d_Str_charAt_11 : decode (ab_bc mt_Str_charAt) 11 = .ok (.iload_n 1, 1) := by decide +kernel
theorem d_Str_charAt_12 : decode (ab_bc mt_Str_charAt) 12 = .ok (.invokestatic 495, 3) := by decide +kernel
theorem d_Str_charAt_15 : decode (ab_bc mt_Str_charAt) 15 = .ok (.ireturn, 1) := by decide +kernel
theorem d_Str_charAt_16 : decode (ab_bc mt_Str_charAt) 16 = .ok (.aload_n 0, 1) := by decide +kernel
theorem d_Str_charAt_17 : decode (ab_bc mt_Str_charAt) 17 = .ok (.getfield 9, 3) := by decide +kernel
theorem d_Str_charAt_20 : decode (ab_bc mt_Str_charAt) 20 = .ok (.iload_n 1, 1) := by decide +kernel
theorem d_Str_charAt_21 : decode (ab_bc mt_Str_charAt) 21 = .ok (.invokestatic 498, 3) := by decide +kernel
-- java/lang/String.charAt(I)C over S:j
theorem q_Str_charAt_0 {w : ab_Wd} {d n nc ns : Nat} {I : Nat → Nat → Int32} {L : Nat → Nat → Int64} {res : ab_Re} {j : Nat} (hj : j < 8) (v1 : Int32) (hc : nc ≤ res.2.2.2.2.2.1) (hs : ns ≤ res.2.2.2.2.2.2)
    (h : ∃ (r1 : Int32), ab_C w d mt_Str_isLatin1 [.ref (64 * j + 32)] (I, L, ab_RR, n, nc, ns) (.inl (some (.int r1)), (I, L, ab_RR, n, nc, ns)) ∧ ((r1 = 0 → (False)) ∧ (¬ r1 = 0 → (∃ (r3 : Int32), ab_C w d mt_Lat_charAt [.ref (64 * j + 33), .int v1] (I, L, ab_RR, n, nc, ns) (.inl (some (.int r3)), (I, L, ab_RR, n, nc, ns)) ∧ (narrow .char (.int r3) = .int r3) ∧ res = (.inl (some (.int r3)), (I, L, ab_RR, n, nc, ns)))))) : ab_E w (d + 1) mt_Str_charAt 0 [.ref (64 * j + 32), .int v1] [] (I, L, ab_RR, n, nc, ns) res := by
  refine ab_aload_n (i := 0) d_Str_charAt_0 rfl rfl ?_
  obtain ⟨r1, hC, h⟩ := h
  refine ab_callT (me2 := mt_Str_isLatin1) (j := j) (as := []) (st := []) (rv := (some (.int r1))) (M2 := (I, L, ab_RR, n, nc, ns)) d_Str_charAt_1 hj ce_Str_isLatin1 v_847 v_848 v_849 rfl (Nat.le_of_ble_eq_true rfl) hC (Nat.le_refl _) (Nat.le_refl _) hc hs (fun j h9 => by cases h9) (fun _ _ => rfl) ?_
  show ab_E w (d + 1) mt_Str_charAt 4 [.ref (64 * j + 32), .int v1] [.int r1] (I, L, ab_RR, n, nc, ns) res
  refine ab_if_eq (tgt := 16) d_Str_charAt_4 (by decide) (fun c2 => ?_) (fun c2 => ?_)
  · have h := h.1 c2
    refine ab_aload_n (i := 0) d_Str_charAt_16 rfl rfl ?_
    refine ab_sgetV (j := j) d_Str_charAt_17 hj v_2015 ?_
    refine ab_iload_n (i := 1) d_Str_charAt_20 rfl rfl ?_
    exact h.elim
  · have h := h.2 c2
    refine ab_aload_n (i := 0) d_Str_charAt_7 rfl rfl ?_
    refine ab_sgetV (j := j) d_Str_charAt_8 hj v_2015 ?_
    refine ab_iload_n (i := 1) d_Str_charAt_11 rfl rfl ?_
    obtain ⟨r3, hC, h⟩ := h
    refine ab_callS (me2 := mt_Lat_charAt) (as := [.ref (64 * j + 33), .int v1]) (st := []) (rv := (some (.int r3))) (M2 := (I, L, ab_RR, n, nc, ns)) d_Str_charAt_12 ce_Lat_charAt ⟨v_852, Or.inl v_851⟩ (Nat.le_of_ble_eq_true rfl) hC (Nat.le_refl _) (Nat.le_refl _) hc hs (fun j h9 => by cases h9) (fun _ _ => rfl) ?_
    show ab_E w (d + 1) mt_Str_charAt 15 [.ref (64 * j + 32), .int v1] [.int r3] (I, L, ab_RR, n, nc, ns) res
    have g := h.1; have h := h.2
    exact ab_iret (ty := .char) d_Str_charAt_15 rfl g h
theorem d_Str_length_0 : decode (ab_bc mt_Str_length) 0 = .ok (.aload_n 0, 1) := by decide +kernel
theorem d_Str_length_1 : decode (ab_bc mt_Str_length) 1 = .ok (.getfield 9, 3) := by decide +kernel
theorem d_Str_length_4 : decode (ab_bc mt_Str_length) 4 = .ok (.arraylength, 1) := by decide +kernel
theorem d_Str_length_5 : decode (ab_bc mt_Str_length) 5 = .ok (.aload_n 0, 1) := by decide +kernel
theorem d_Str_length_6 : decode (ab_bc mt_Str_length) 6 = .ok (.invokevirtual 335, 3) := by decide +kernel
theorem d_Str_length_9 : decode (ab_bc mt_Str_length) 9 = .ok (.ishr, 1) := by decide +kernel
theorem d_Str_length_10 : decode (ab_bc mt_Str_length) 10 = .ok (.ireturn, 1) := by decide +kernel
-- java/lang/String.length()I over S:j
theorem q_Str_length_0 {w : ab_Wd} {d n nc ns : Nat} {I : Nat → Nat → Int32} {L : Nat → Nat → Int64} {res : ab_Re} {j : Nat} (hj : j < 8) (hc : nc ≤ res.2.2.2.2.2.1) (hs : ns ≤ res.2.2.2.2.2.2)
    (h : ∃ (r1 : Int32), ab_C w d mt_Str_coder [.ref (64 * j + 32)] (I, L, ab_RR, n, nc, ns) (.inl (some (.int r1)), (I, L, ab_RR, n, nc, ns)) ∧ res = (.inl (some (.int ((Int32.ofNat (ab_slen.getD j 0)) >>> (r1 &&& 31)))), (I, L, ab_RR, n, nc, ns))) : ab_E w (d + 1) mt_Str_length 0 [.ref (64 * j + 32)] [] (I, L, ab_RR, n, nc, ns) res := by
  refine ab_aload_n (i := 0) d_Str_length_0 rfl rfl ?_
  refine ab_sgetV (j := j) d_Str_length_1 hj v_2015 ?_
  refine ab_sblen (j := j) (v := (Int32.ofNat (ab_slen.getD j 0))) d_Str_length_4 hj rfl ?_
  refine ab_aload_n (i := 0) d_Str_length_5 rfl rfl ?_
  obtain ⟨r1, hC, h⟩ := h
  refine ab_callT (me2 := mt_Str_coder) (j := j) (as := []) (st := [.int (Int32.ofNat (ab_slen.getD j 0))]) (rv := (some (.int r1))) (M2 := (I, L, ab_RR, n, nc, ns)) d_Str_length_6 hj ce_Str_coder v_837 v_838 v_839 rfl (Nat.le_of_ble_eq_true rfl) hC (Nat.le_refl _) (Nat.le_refl _) hc hs (fun j h9 => by cases h9) (fun _ _ => rfl) ?_
  show ab_E w (d + 1) mt_Str_length 9 [.ref (64 * j + 32)] [.int r1, .int (Int32.ofNat (ab_slen.getD j 0))] (I, L, ab_RR, n, nc, ns) res
  refine ab_ishr d_Str_length_9 ?_
  exact ab_iret (ty := .int) d_Str_length_10 rfl rfl h
theorem d_Str_isLatin1_0 : decode (ab_bc mt_Str_isLatin1) 0 = .ok (.getstatic 38, 3) := by decide +kernel
theorem d_Str_isLatin1_3 : decode (ab_bc mt_Str_isLatin1) 3 = .ok (.ifCond .eq 14, 3) := by decide +kernel
theorem d_Str_isLatin1_6 : decode (ab_bc mt_Str_isLatin1) 6 = .ok (.aload_n 0, 1) := by decide +kernel
theorem d_Str_isLatin1_7 : decode (ab_bc mt_Str_isLatin1) 7 = .ok (.getfield 15, 3) := by decide +kernel
theorem d_Str_isLatin1_10 : decode (ab_bc mt_Str_isLatin1) 10 = .ok (.ifCond .ne 7, 3) := by decide +kernel
theorem d_Str_isLatin1_13 : decode (ab_bc mt_Str_isLatin1) 13 = .ok (.iconst 1, 1) := by decide +kernel
theorem d_Str_isLatin1_14 : decode (ab_bc mt_Str_isLatin1) 14 = .ok (.goto 4, 3) := by decide +kernel
theorem d_Str_isLatin1_17 : decode (ab_bc mt_Str_isLatin1) 17 = .ok (.iconst 0, 1) := by decide +kernel
theorem d_Str_isLatin1_18 : decode (ab_bc mt_Str_isLatin1) 18 = .ok (.ireturn, 1) := by decide +kernel
-- java/lang/String.isLatin1()Z over S:j
theorem q_Str_isLatin1_0 {w : ab_Wd} {d n nc ns : Nat} {I : Nat → Nat → Int32} {L : Nat → Nat → Int64} {res : ab_Re} {j : Nat} (hj : j < 8) (hc : nc ≤ res.2.2.2.2.2.1) (hs : ns ≤ res.2.2.2.2.2.2)
    (h : (((1 : Int32) = 0 → (ab_E w d mt_Str_isLatin1 17 [.ref (64 * j + 32)] [] (I, L, ab_RR, n, nc, ns) res)) ∧ (¬ (1 : Int32) = 0 → ((¬ (0 : Int32) = 0 → (ab_E w d mt_Str_isLatin1 17 [.ref (64 * j + 32)] [] (I, L, ab_RR, n, nc, ns) res)) ∧ ((0 : Int32) = 0 → (ab_E w d mt_Str_isLatin1 18 [.ref (64 * j + 32)] [.int 1] (I, L, ab_RR, n, nc, ns) res)))))) : ab_E w d mt_Str_isLatin1 0 [.ref (64 * j + 32)] [] (I, L, ab_RR, n, nc, ns) res := by
  refine ab_compact d_Str_isLatin1_0 v_841 ?_
  refine ab_if_eq (tgt := 17) d_Str_isLatin1_3 (by decide) (fun c1 => ?_) (fun c1 => ?_)
  · have h := h.1 c1
    exact h
  · have h := h.2 c1
    refine ab_aload_n (i := 0) d_Str_isLatin1_6 rfl rfl ?_
    refine ab_sgetC (j := j) d_Str_isLatin1_7 hj v_2016 ?_
    refine ab_if_ne (tgt := 17) d_Str_isLatin1_10 (by decide) (fun c2 => ?_) (fun c2 => ?_)
    · have h := h.1 c2
      exact h
    · have h := h.2 c2
      refine ab_iconst (v := 1) d_Str_isLatin1_13 rfl ?_
      refine ab_goto (tgt := 18) d_Str_isLatin1_14 (by decide) ?_
      exact h
theorem q_Str_isLatin1_17 {w : ab_Wd} {d n nc ns : Nat} {I : Nat → Nat → Int32} {L : Nat → Nat → Int64} {res : ab_Re} {j : Nat} (hj : j < 8) (hc : nc ≤ res.2.2.2.2.2.1) (hs : ns ≤ res.2.2.2.2.2.2)
    (h : ab_E w d mt_Str_isLatin1 18 [.ref (64 * j + 32)] [.int 0] (I, L, ab_RR, n, nc, ns) res) : ab_E w d mt_Str_isLatin1 17 [.ref (64 * j + 32)] [] (I, L, ab_RR, n, nc, ns) res := by
  refine ab_iconst (v := 0) d_Str_isLatin1_17 rfl ?_
  exact h
theorem q_Str_isLatin1_18 {w : ab_Wd} {d n nc ns : Nat} {I : Nat → Nat → Int32} {L : Nat → Nat → Int64} {res : ab_Re} {j : Nat} (hj : j < 8) (s0 : Int32) (hc : nc ≤ res.2.2.2.2.2.1) (hs : ns ≤ res.2.2.2.2.2.2)
    (h : (narrow .boolean (.int s0) = .int s0) ∧ res = (.inl (some (.int s0)), (I, L, ab_RR, n, nc, ns))) : ab_E w d mt_Str_isLatin1 18 [.ref (64 * j + 32)] [.int s0] (I, L, ab_RR, n, nc, ns) res := by
  have g := h.1; have h := h.2
  exact ab_iret (ty := .boolean) d_Str_isLatin1_18 rfl g h
theorem d_Str_coder_0 : decode (ab_bc mt_Str_coder) 0 = .ok (.getstatic 38, 3) := by decide +kernel
theorem d_Str_coder_3 : decode (ab_bc mt_Str_coder) 3 = .ok (.ifCond .eq 10, 3) := by decide +kernel
theorem d_Str_coder_6 : decode (ab_bc mt_Str_coder) 6 = .ok (.aload_n 0, 1) := by decide +kernel
theorem d_Str_coder_7 : decode (ab_bc mt_Str_coder) 7 = .ok (.getfield 15, 3) := by decide +kernel
theorem d_Str_coder_10 : decode (ab_bc mt_Str_coder) 10 = .ok (.goto 4, 3) := by decide +kernel
theorem d_Str_coder_13 : decode (ab_bc mt_Str_coder) 13 = .ok (.iconst 1, 1) := by decide +kernel
theorem d_Str_coder_14 : decode (ab_bc mt_Str_coder) 14 = .ok (.ireturn, 1) := by decide +kernel
-- java/lang/String.coder()B over S:j
theorem q_Str_coder_0 {w : ab_Wd} {d n nc ns : Nat} {I : Nat → Nat → Int32} {L : Nat → Nat → Int64} {res : ab_Re} {j : Nat} (hj : j < 8) (hc : nc ≤ res.2.2.2.2.2.1) (hs : ns ≤ res.2.2.2.2.2.2)
    (h : (((1 : Int32) = 0 → (ab_E w d mt_Str_coder 14 [.ref (64 * j + 32)] [.int 1] (I, L, ab_RR, n, nc, ns) res)) ∧ (¬ (1 : Int32) = 0 → (ab_E w d mt_Str_coder 14 [.ref (64 * j + 32)] [.int 0] (I, L, ab_RR, n, nc, ns) res)))) : ab_E w d mt_Str_coder 0 [.ref (64 * j + 32)] [] (I, L, ab_RR, n, nc, ns) res := by
  refine ab_compact d_Str_coder_0 v_841 ?_
  refine ab_if_eq (tgt := 13) d_Str_coder_3 (by decide) (fun c1 => ?_) (fun c1 => ?_)
  · have h := h.1 c1
    refine ab_iconst (v := 1) d_Str_coder_13 rfl ?_
    exact h
  · have h := h.2 c1
    refine ab_aload_n (i := 0) d_Str_coder_6 rfl rfl ?_
    refine ab_sgetC (j := j) d_Str_coder_7 hj v_2016 ?_
    refine ab_goto (tgt := 14) d_Str_coder_10 (by decide) ?_
    exact h
theorem q_Str_coder_14 {w : ab_Wd} {d n nc ns : Nat} {I : Nat → Nat → Int32} {L : Nat → Nat → Int64} {res : ab_Re} {j : Nat} (hj : j < 8) (s0 : Int32) (hc : nc ≤ res.2.2.2.2.2.1) (hs : ns ≤ res.2.2.2.2.2.2)
    (h : (narrow .byte (.int s0) = .int s0) ∧ res = (.inl (some (.int s0)), (I, L, ab_RR, n, nc, ns))) : ab_E w d mt_Str_coder 14 [.ref (64 * j + 32)] [.int s0] (I, L, ab_RR, n, nc, ns) res := by
  have g := h.1; have h := h.2
  exact ab_iret (ty := .byte) d_Str_coder_14 rfl g h
