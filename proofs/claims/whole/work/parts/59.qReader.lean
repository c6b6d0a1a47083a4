theorem d_Reader_passNumber_0 : decode (ab_bc mt_Reader_passNumber) 0 = .ok (.aload_n 0, 1) := by decide +kernel
theorem d_Reader_passNumber_1 : decode (ab_bc mt_Reader_passNumber) 1 = .ok (.iconst 0, 1) := by decide +kernel
theorem d_Reader_passNumber_2 : decode (ab_bc mt_Reader_passNumber) 2 = .ok (.putfield 21, 3) := by decide +kernel
theorem d_Reader_passNumber_5 : decode (ab_bc mt_Reader_passNumber) 5 = .ok (.aload_n 0, 1) := by decide +kernel
theorem d_Reader_passNumber_6 : decode (ab_bc mt_Reader_passNumber) 6 = .ok (.getfield 9, 3) := by decide +kernel
theorem d_Reader_passNumber_9 : decode (ab_bc mt_Reader_passNumber) 9 = .ok (.aload_n 0, 1) := by decide +kernel
theorem d_Reader_passNumber_10 : decode (ab_bc mt_Reader_passNumber) 10 = .ok (.getfield 34, 3) := by decide +kernel
theorem d_Reader_passNumber_13 : decode (ab_bc mt_Reader_passNumber) 13 = .ok (.if_icmp .ge 64, 3) := by decide +kernel
theorem d_Reader_passNumber_16 : decode (ab_bc mt_Reader_passNumber) 16 = .ok (.aload_n 0, 1) := by decide +kernel
theorem d_Reader_passNumber_17 : decode (ab_bc mt_Reader_passNumber) 17 = .ok (.aload_n 0, 1) := by decide +kernel
theorem d_Reader_passNumber_18 : decode (ab_bc mt_Reader_passNumber) 18 = .ok (.getfield 9, 3) := by decide +kernel
theorem d_Reader_passNumber_21 : decode (ab_bc mt_Reader_passNumber) 21 = .ok (.invokevirtual 109, 3) := by decide +kernel
theorem d_Reader_passNumber_24 : decode (ab_bc mt_Reader_passNumber) 24 = .ok (.ifCond .eq 53, 3) := by decide +kernel
theorem d_Reader_passNumber_27 : decode (ab_bc mt_Reader_passNumber) 27 = .ok (.aload_n 0, 1) := by decide +kernel
theorem d_Reader_passNumber_28 : decode (ab_bc mt_Reader_passNumber) 28 = .ok (.getfield 9, 3) := by decide +kernel
theorem d_Reader_passNumber_31 : decode (ab_bc mt_Reader_passNumber) 31 = .ok (.aload_n 0, 1) := by decide +kernel
theorem d_Reader_passNumber_32 : decode (ab_bc mt_Reader_passNumber) 32 = .ok (.getfield 18, 3) := by decide +kernel
theorem d_Reader_passNumber_35 : decode (ab_bc mt_Reader_passNumber) 35 = .ok (.isub, 1) := by decide +kernel
theorem d_Reader_passNumber_36 : decode (ab_bc mt_Reader_passNumber) 36 = .ok (.iconst 3, 1) := by decide +kernel
theorem d_Reader_passNumber_37 : decode (ab_bc mt_Reader_passNumber) 37 = .ok (.if_icmp .ge 27, 3) := by decide +kernel
theorem d_Reader_passNumber_40 : decode (ab_bc mt_Reader_passNumber) 40 = .ok (.aload_n 0, 1) := by decide +kernel
theorem d_Reader_passNumber_41 : decode (ab_bc mt_Reader_passNumber) 41 = .ok (.aload_n 0, 1) := by decide +kernel
theorem d_Reader_passNumber_42 : decode (ab_bc mt_Reader_passNumber) 42 = .ok (.getfield 21, 3) := by decide +kernel
theorem d_Reader_passNumber_45 : decode (ab_bc mt_Reader_passNumber) 45 = .ok (.bipush 10, 2) := by decide +kernel
theorem d_Reader_passNumber_47 : decode (ab_bc mt_Reader_passNumber) 47 = .ok (.imul, 1) := by decide +kernel
theorem d_Reader_passNumber_48 : decode (ab_bc mt_Reader_passNumber) 48 = .ok (.aload_n 0, 1) := by decide +kernel
theorem d_Reader_passNumber_49 : decode (ab_bc mt_Reader_passNumber) 49 = .ok (.getfield 30, 3) := by decide +kernel
theorem d_Reader_passNumber_52 : decode (ab_bc mt_Reader_passNumber) 52 = .ok (.aload_n 0, 1) := by decide +kernel
theorem d_Reader_passNumber_53 : decode (ab_bc mt_Reader_passNumber) 53 = .ok (.getfield 9, 3) := by decide +kernel
theorem d_Reader_passNumber_56 : decode (ab_bc mt_Reader_passNumber) 56 = .ok (.baload, 1) := by decide +kernel
theorem d_Reader_passNumber_57 : decode (ab_bc mt_Reader_passNumber) 57 = .ok (.iadd, 1) := by decide +kernel
theorem d_Reader_passNumber_58 : decode (ab_bc mt_Reader_passNumber) 58 = .ok (.bipush 48, 2) := by decide +kernel
theorem d_Reader_passNumber_60 : decode (ab_bc mt_Reader_passNumber) 60 = .ok (.isub, 1) := by decide +kernel
theorem d_Reader_passNumber_61 : decode (ab_bc mt_Reader_passNumber) 61 = .ok (.putfield 21, 3) := by decide +kernel
theorem d_Reader_passNumber_64 : decode (ab_bc mt_Reader_passNumber) 64 = .ok (.aload_n 0, 1) := by decide +kernel
theorem d_Reader_passNumber_65 : decode (ab_bc mt_Reader_passNumber) 65 = .ok (.dup, 1) := by decide +kernel
theorem d_Reader_passNumber_66 : decode (ab_bc mt_Reader_passNumber) 66 = .ok (.getfield 9, 3) := by decide +kernel
theorem d_Reader_passNumber_69 : decode (ab_bc mt_Reader_passNumber) 69 = .ok (.iconst 1, 1) := by decide +kernel
theorem d_Reader_passNumber_70 : decode (ab_bc mt_Reader_passNumber) 70 = .ok (.iadd, 1) := by decide +kernel
theorem d_Reader_passNumber_71 : decode (ab_bc mt_Reader_passNumber) 71 = .ok (.putfield 9, 3) := by decide +kernel
theorem d_Reader_passNumber_74 : decode (ab_bc mt_Reader_passNumber) 74 = .ok (.goto (-69), 3) := by decide +kernel
theorem d_Reader_passNumber_77 : decode (ab_bc mt_Reader_passNumber) 77 = .ok (.return_, 1) := by decide +kernel
-- CableKeeper$Reader.passNumber()V over kx_reader
theorem q_Reader_passNumber_0 {w : ab_Wd} {d n nc ns : Nat} {I : Nat → Nat → Int32} {L : Nat → Nat → Int64} {res : ab_Re}  (hc : nc ≤ res.2.2.2.2.2.1) (hs : ns ≤ res.2.2.2.2.2.2)
    (h : ab_E w (d + 1) mt_Reader_passNumber 5 [.ref kx_reader] [] ((ab_up I kx_reader 6 0), L, ab_RR, n, nc, ns) res) : ab_E w (d + 1) mt_Reader_passNumber 0 [.ref kx_reader] [] (I, L, ab_RR, n, nc, ns) res := by
  refine ab_aload_n (i := 0) d_Reader_passNumber_0 rfl rfl ?_
  refine ab_iconst (v := 0) d_Reader_passNumber_1 rfl ?_
  refine ab_putI (ci := 4) (k := 6) d_Reader_passNumber_2 v_773 rfl (by decide) (by decide) rfl (Or.inl rfl) rfl rfl ?_
  exact h
theorem q_Reader_passNumber_5 {w : ab_Wd} {d n nc ns : Nat} {I : Nat → Nat → Int32} {L : Nat → Nat → Int64} {res : ab_Re}  (hc : nc ≤ res.2.2.2.2.2.1) (hs : ns ≤ res.2.2.2.2.2.2)
    (h : (((I kx_reader 1) ≤ (I kx_reader 3) → (ab_E w (d + 1) mt_Reader_passNumber 77 [.ref kx_reader] [] (I, L, ab_RR, n, nc, ns) res)) ∧ (¬ (I kx_reader 1) ≤ (I kx_reader 3) → (∃ (r2 : Int32), ab_C w d mt_Reader_isDigit [.ref kx_reader, .int (I kx_reader 3)] (I, L, ab_RR, n, nc, ns) (.inl (some (.int r2)), (I, L, ab_RR, n, nc, ns)) ∧ ((r2 = 0 → (ab_E w (d + 1) mt_Reader_passNumber 77 [.ref kx_reader] [] (I, L, ab_RR, n, nc, ns) res)) ∧ (¬ r2 = 0 → ((3 ≤ ((I kx_reader 3) - (I kx_reader 5)) → (ab_E w (d + 1) mt_Reader_passNumber 64 [.ref kx_reader] [] (I, L, ab_RR, n, nc, ns) res)) ∧ (¬ 3 ≤ ((I kx_reader 3) - (I kx_reader 5)) → ((vp_in (I kx_reader 3) 700) ∧ ab_E w (d + 1) mt_Reader_passNumber 64 [.ref kx_reader] [] ((ab_up I kx_reader 6 ((((I kx_reader 6) * 10) + (I kx_tape (I kx_reader 3).toNatClampNeg)) - 48)), L, ab_RR, n, nc, ns) res))))))))) : ab_E w (d + 1) mt_Reader_passNumber 5 [.ref kx_reader] [] (I, L, ab_RR, n, nc, ns) res := by
  refine ab_aload_n (i := 0) d_Reader_passNumber_5 rfl rfl ?_
  refine ab_getI (ci := 4) (k := 3) d_Reader_passNumber_6 v_770 rfl (by decide) (by decide) rfl ?_
  refine ab_aload_n (i := 0) d_Reader_passNumber_9 rfl rfl ?_
  refine ab_getI (ci := 4) (k := 1) d_Reader_passNumber_10 v_768 rfl (by decide) (by decide) rfl ?_
  refine ab_icmp_ge (tgt := 77) d_Reader_passNumber_13 (by decide) (fun c1 => ?_) (fun c1 => ?_)
  · have h := h.1 c1
    exact h
  · have h := h.2 c1
    refine ab_aload_n (i := 0) d_Reader_passNumber_16 rfl rfl ?_
    refine ab_aload_n (i := 0) d_Reader_passNumber_17 rfl rfl ?_
    refine ab_getI (ci := 4) (k := 3) d_Reader_passNumber_18 v_770 rfl (by decide) (by decide) rfl ?_
    obtain ⟨r2, hC, h⟩ := h
    refine ab_callV (me2 := mt_Reader_isDigit) (b := kx_reader) (as := [.int (I kx_reader 3)]) (st := []) (rv := (some (.int r2))) (M2 := (I, L, ab_RR, n, nc, ns)) d_Reader_passNumber_21 ce_Reader_isDigit v_816 v_818 v_17 (by decide) rfl (Nat.le_of_ble_eq_true rfl) hC (Nat.le_refl _) (Nat.le_refl _) hc hs (fun j h9 => by cases h9) (fun _ _ => rfl) ?_
    show ab_E w (d + 1) mt_Reader_passNumber 24 [.ref kx_reader] [.int r2] (I, L, ab_RR, n, nc, ns) res
    refine ab_if_eq (tgt := 77) d_Reader_passNumber_24 (by decide) (fun c3 => ?_) (fun c3 => ?_)
    · have h := h.1 c3
      exact h
    · have h := h.2 c3
      refine ab_aload_n (i := 0) d_Reader_passNumber_27 rfl rfl ?_
      refine ab_getI (ci := 4) (k := 3) d_Reader_passNumber_28 v_770 rfl (by decide) (by decide) rfl ?_
      refine ab_aload_n (i := 0) d_Reader_passNumber_31 rfl rfl ?_
      refine ab_getI (ci := 4) (k := 5) d_Reader_passNumber_32 v_772 rfl (by decide) (by decide) rfl ?_
      refine ab_isub d_Reader_passNumber_35 ?_
      refine ab_iconst (v := 3) d_Reader_passNumber_36 rfl ?_
      refine ab_icmp_ge (tgt := 64) d_Reader_passNumber_37 (by decide) (fun c4 => ?_) (fun c4 => ?_)
      · have h := h.1 c4
        exact h
      · have h := h.2 c4
        refine ab_aload_n (i := 0) d_Reader_passNumber_40 rfl rfl ?_
        refine ab_aload_n (i := 0) d_Reader_passNumber_41 rfl rfl ?_
        refine ab_getI (ci := 4) (k := 6) d_Reader_passNumber_42 v_773 rfl (by decide) (by decide) rfl ?_
        refine ab_bipush (v := 10) d_Reader_passNumber_45 rfl ?_
        refine ab_imul d_Reader_passNumber_47 ?_
        refine ab_aload_n (i := 0) d_Reader_passNumber_48 rfl rfl ?_
        refine ab_getR (ci := 4) (k := 0) (j := kx_tape) d_Reader_passNumber_49 v_767 rfl (by decide) (by decide) rfl r_kx_reader_0 ?_
        refine ab_aload_n (i := 0) d_Reader_passNumber_52 rfl rfl ?_
        refine ab_getI (ci := 4) (k := 3) d_Reader_passNumber_53 v_770 rfl (by decide) (by decide) rfl ?_
        have g5 := h.1; have h := h.2
        refine ab_bald d_Reader_passNumber_56 rfl rfl g5 ?_
        refine ab_iadd d_Reader_passNumber_57 ?_
        refine ab_bipush (v := 48) d_Reader_passNumber_58 rfl ?_
        refine ab_isub d_Reader_passNumber_60 ?_
        refine ab_putI (ci := 4) (k := 6) d_Reader_passNumber_61 v_773 rfl (by decide) (by decide) rfl (Or.inl rfl) rfl rfl ?_
        exact h
theorem q_Reader_passNumber_64 {w : ab_Wd} {d n nc ns : Nat} {I : Nat → Nat → Int32} {L : Nat → Nat → Int64} {res : ab_Re}  (hc : nc ≤ res.2.2.2.2.2.1) (hs : ns ≤ res.2.2.2.2.2.2)
    (h : ab_E w (d + 1) mt_Reader_passNumber 5 [.ref kx_reader] [] ((ab_up I kx_reader 3 ((I kx_reader 3) + 1)), L, ab_RR, n, nc, ns) res) : ab_E w (d + 1) mt_Reader_passNumber 64 [.ref kx_reader] [] (I, L, ab_RR, n, nc, ns) res := by
  refine ab_aload_n (i := 0) d_Reader_passNumber_64 rfl rfl ?_
  refine ab_dupr d_Reader_passNumber_65 ?_
  refine ab_getI (ci := 4) (k := 3) d_Reader_passNumber_66 v_770 rfl (by decide) (by decide) rfl ?_
  refine ab_iconst (v := 1) d_Reader_passNumber_69 rfl ?_
  refine ab_iadd d_Reader_passNumber_70 ?_
  refine ab_putI (ci := 4) (k := 3) d_Reader_passNumber_71 v_770 rfl (by decide) (by decide) rfl (Or.inl rfl) rfl rfl ?_
  refine ab_goto (tgt := 5) d_Reader_passNumber_74 (by decide) ?_
  exact h
theorem q_Reader_passNumber_77 {w : ab_Wd} {d n nc ns : Nat} {I : Nat → Nat → Int32} {L : Nat → Nat → Int64} {res : ab_Re}  (hc : nc ≤ res.2.2.2.2.2.1) (hs : ns ≤ res.2.2.2.2.2.2)
    (h : res = (.inl none, (I, L, ab_RR, n, nc, ns))) : ab_E w (d + 1) mt_Reader_passNumber 77 [.ref kx_reader] [] (I, L, ab_RR, n, nc, ns) res := by
  exact ab_vret d_Reader_passNumber_77 rfl h
theorem d_Reader_passWord_0 : decode (ab_bc mt_Reader_passWord) 0 = .ok (.aload_n 0, 1) := by decide +kernel
theorem d_Reader_passWord_1 : decode (ab_bc mt_Reader_passWord) 1 = .ok (.getfield 9, 3) := by decide +kernel
theorem d_Reader_passWord_4 : decode (ab_bc mt_Reader_passWord) 4 = .ok (.aload_n 0, 1) := by decide +kernel
theorem d_Reader_passWord_5 : decode (ab_bc mt_Reader_passWord) 5 = .ok (.getfield 34, 3) := by decide +kernel
theorem d_Reader_passWord_8 : decode (ab_bc mt_Reader_passWord) 8 = .ok (.if_icmp .ge 27, 3) := by decide +kernel
theorem d_Reader_passWord_11 : decode (ab_bc mt_Reader_passWord) 11 = .ok (.aload_n 0, 1) := by decide +kernel
theorem d_Reader_passWord_12 : decode (ab_bc mt_Reader_passWord) 12 = .ok (.aload_n 0, 1) := by decide +kernel
theorem d_Reader_passWord_13 : decode (ab_bc mt_Reader_passWord) 13 = .ok (.getfield 9, 3) := by decide +kernel
theorem d_Reader_passWord_16 : decode (ab_bc mt_Reader_passWord) 16 = .ok (.invokevirtual 103, 3) := by decide +kernel
theorem d_Reader_passWord_19 : decode (ab_bc mt_Reader_passWord) 19 = .ok (.ifCond .eq 16, 3) := by decide +kernel
theorem d_Reader_passWord_22 : decode (ab_bc mt_Reader_passWord) 22 = .ok (.aload_n 0, 1) := by decide +kernel
theorem d_Reader_passWord_23 : decode (ab_bc mt_Reader_passWord) 23 = .ok (.dup, 1) := by decide +kernel
theorem d_Reader_passWord_24 : decode (ab_bc mt_Reader_passWord) 24 = .ok (.getfield 9, 3) := by decide +kernel
theorem d_Reader_passWord_27 : decode (ab_bc mt_Reader_passWord) 27 = .ok (.iconst 1, 1) := by decide +kernel
theorem d_Reader_passWord_28 : decode (ab_bc mt_Reader_passWord) 28 = .ok (.iadd, 1) := by decide +kernel
theorem d_Reader_passWord_29 : decode (ab_bc mt_Reader_passWord) 29 = .ok (.putfield 9, 3) := by decide +kernel
theorem d_Reader_passWord_32 : decode (ab_bc mt_Reader_passWord) 32 = .ok (.goto (-32), 3) := by decide +kernel
theorem d_Reader_passWord_35 : decode (ab_bc mt_Reader_passWord) 35 = .ok (.return_, 1) := by decide +kernel
-- CableKeeper$Reader.passWord()V over kx_reader
theorem q_Reader_passWord_0 {w : ab_Wd} {d n nc ns : Nat} {I : Nat → Nat → Int32} {L : Nat → Nat → Int64} {res : ab_Re}  (hc : nc ≤ res.2.2.2.2.2.1) (hs : ns ≤ res.2.2.2.2.2.2)
    (h : (((I kx_reader 1) ≤ (I kx_reader 3) → (ab_E w (d + 1) mt_Reader_passWord 35 [.ref kx_reader] [] (I, L, ab_RR, n, nc, ns) res)) ∧ (¬ (I kx_reader 1) ≤ (I kx_reader 3) → (∃ (r2 : Int32), ab_C w d mt_Reader_isLetter [.ref kx_reader, .int (I kx_reader 3)] (I, L, ab_RR, n, nc, ns) (.inl (some (.int r2)), (I, L, ab_RR, n, nc, ns)) ∧ ((r2 = 0 → (ab_E w (d + 1) mt_Reader_passWord 35 [.ref kx_reader] [] (I, L, ab_RR, n, nc, ns) res)) ∧ (¬ r2 = 0 → (ab_E w (d + 1) mt_Reader_passWord 0 [.ref kx_reader] [] ((ab_up I kx_reader 3 ((I kx_reader 3) + 1)), L, ab_RR, n, nc, ns) res))))))) : ab_E w (d + 1) mt_Reader_passWord 0 [.ref kx_reader] [] (I, L, ab_RR, n, nc, ns) res := by
  refine ab_aload_n (i := 0) d_Reader_passWord_0 rfl rfl ?_
  refine ab_getI (ci := 4) (k := 3) d_Reader_passWord_1 v_770 rfl (by decide) (by decide) rfl ?_
  refine ab_aload_n (i := 0) d_Reader_passWord_4 rfl rfl ?_
  refine ab_getI (ci := 4) (k := 1) d_Reader_passWord_5 v_768 rfl (by decide) (by decide) rfl ?_
  refine ab_icmp_ge (tgt := 35) d_Reader_passWord_8 (by decide) (fun c1 => ?_) (fun c1 => ?_)
  · have h := h.1 c1
    exact h
  · have h := h.2 c1
    refine ab_aload_n (i := 0) d_Reader_passWord_11 rfl rfl ?_
    refine ab_aload_n (i := 0) d_Reader_passWord_12 rfl rfl ?_
    refine ab_getI (ci := 4) (k := 3) d_Reader_passWord_13 v_770 rfl (by decide) (by decide) rfl ?_
    obtain ⟨r2, hC, h⟩ := h
    refine ab_callV (me2 := mt_Reader_isLetter) (b := kx_reader) (as := [.int (I kx_reader 3)]) (st := []) (rv := (some (.int r2))) (M2 := (I, L, ab_RR, n, nc, ns)) d_Reader_passWord_16 ce_Reader_isLetter v_808 v_810 v_15 (by decide) rfl (Nat.le_of_ble_eq_true rfl) hC (Nat.le_refl _) (Nat.le_refl _) hc hs (fun j h9 => by cases h9) (fun _ _ => rfl) ?_
    show ab_E w (d + 1) mt_Reader_passWord 19 [.ref kx_reader] [.int r2] (I, L, ab_RR, n, nc, ns) res
    refine ab_if_eq (tgt := 35) d_Reader_passWord_19 (by decide) (fun c3 => ?_) (fun c3 => ?_)
    · have h := h.1 c3
      exact h
    · have h := h.2 c3
      refine ab_aload_n (i := 0) d_Reader_passWord_22 rfl rfl ?_
      refine ab_dupr d_Reader_passWord_23 ?_
      refine ab_getI (ci := 4) (k := 3) d_Reader_passWord_24 v_770 rfl (by decide) (by decide) rfl ?_
      refine ab_iconst (v := 1) d_Reader_passWord_27 rfl ?_
      refine ab_iadd d_Reader_passWord_28 ?_
      refine ab_putI (ci := 4) (k := 3) d_Reader_passWord_29 v_770 rfl (by decide) (by decide) rfl (Or.inl rfl) rfl rfl ?_
      refine ab_goto (tgt := 0) d_Reader_passWord_32 (by decide) ?_
      exact h
theorem q_Reader_passWord_35 {w : ab_Wd} {d n nc ns : Nat} {I : Nat → Nat → Int32} {L : Nat → Nat → Int64} {res : ab_Re}  (hc : nc ≤ res.2.2.2.2.2.1) (hs : ns ≤ res.2.2.2.2.2.2)
    (h : res = (.inl none, (I, L, ab_RR, n, nc, ns))) : ab_E w (d + 1) mt_Reader_passWord 35 [.ref kx_reader] [] (I, L, ab_RR, n, nc, ns) res := by
  exact ab_vret d_Reader_passWord_35 rfl h
theorem d_Reader_readNumber_0 : decode (ab_bc mt_Reader_readNumber) 0 = .ok (.aload_n 0, 1) := by decide +kernel
theorem d_Reader_readNumber_1 : decode (ab_bc mt_Reader_readNumber) 1 = .ok (.getfield 15, 3) := by decide +kernel
theorem d_Reader_readNumber_4 : decode (ab_bc mt_Reader_readNumber) 4 = .ok (.iconst 2, 1) := by decide +kernel
theorem d_Reader_readNumber_5 : decode (ab_bc mt_Reader_readNumber) 5 = .ok (.if_icmp .eq 10, 3) := by decide +kernel
theorem d_Reader_readNumber_8 : decode (ab_bc mt_Reader_readNumber) 8 = .ok (.aload_n 0, 1) := by decide +kernel
theorem d_Reader_readNumber_9 : decode (ab_bc mt_Reader_readNumber) 9 = .ok (.iconst 1, 1) := by decide +kernel
theorem d_Reader_readNumber_10 : decode (ab_bc mt_Reader_readNumber) 10 = .ok (.invokevirtual 75, 3) := by decide +kernel
theorem d_Reader_readNumber_13 : decode (ab_bc mt_Reader_readNumber) 13 = .ok (.iload_n 1, 1) := by decide +kernel
theorem d_Reader_readNumber_14 : decode (ab_bc mt_Reader_readNumber) 14 = .ok (.ireturn, 1) := by decide +kernel
theorem d_Reader_readNumber_15 : decode (ab_bc mt_Reader_readNumber) 15 = .ok (.aload_n 0, 1) := by decide +kernel
theorem d_Reader_readNumber_16 : decode (ab_bc mt_Reader_readNumber) 16 = .ok (.getfield 9, 3) := by decide +kernel
theorem d_Reader_readNumber_19 : decode (ab_bc mt_Reader_readNumber) 19 = .ok (.aload_n 0, 1) := by decide +kernel
theorem d_Reader_readNumber_20 : decode (ab_bc mt_Reader_readNumber) 20 = .ok (.getfield 18, 3) := by decide +kernel
theorem d_Reader_readNumber_23 : decode (ab_bc mt_Reader_readNumber) 23 = .ok (.isub, 1) := by decide +kernel
theorem d_Reader_readNumber_24 : decode (ab_bc mt_Reader_readNumber) 24 = .ok (.iconst 3, 1) := by decide +kernel
theorem d_Reader_readNumber_25 : decode (ab_bc mt_Reader_readNumber) 25 = .ok (.if_icmp .gt 19, 3) := by decide +kernel
theorem d_Reader_readNumber_28 : decode (ab_bc mt_Reader_readNumber) 28 = .ok (.aload_n 0, 1) := by decide +kernel
theorem d_Reader_readNumber_29 : decode (ab_bc mt_Reader_readNumber) 29 = .ok (.getfield 21, 3) := by decide +kernel
theorem d_Reader_readNumber_32 : decode (ab_bc mt_Reader_readNumber) 32 = .ok (.iload_n 1, 1) := by decide +kernel
theorem d_Reader_readNumber_33 : decode (ab_bc mt_Reader_readNumber) 33 = .ok (.if_icmp .lt 11, 3) := by decide +kernel
theorem d_Reader_readNumber_36 : decode (ab_bc mt_Reader_readNumber) 36 = .ok (.aload_n 0, 1) := by decide +kernel
theorem d_Reader_readNumber_37 : decode (ab_bc mt_Reader_readNumber) 37 = .ok (.getfield 21, 3) := by decide +kernel
theorem d_Reader_readNumber_40 : decode (ab_bc mt_Reader_readNumber) 40 = .ok (.iload_n 2, 1) := by decide +kernel
theorem d_Reader_readNumber_41 : decode (ab_bc mt_Reader_readNumber) 41 = .ok (.if_icmp .le 10, 3) := by decide +kernel
theorem d_Reader_readNumber_44 : decode (ab_bc mt_Reader_readNumber) 44 = .ok (.aload_n 0, 1) := by decide +kernel
theorem d_Reader_readNumber_45 : decode (ab_bc mt_Reader_readNumber) 45 = .ok (.iconst 2, 1) := by decide +kernel
theorem d_Reader_readNumber_46 : decode (ab_bc mt_Reader_readNumber) 46 = .ok (.invokevirtual 75, 3) := by decide +kernel
theorem d_Reader_readNumber_49 : decode (ab_bc mt_Reader_readNumber) 49 = .ok (.iload_n 1, 1) := by decide +kernel
theorem d_Reader_readNumber_50 : decode (ab_bc mt_Reader_readNumber) 50 = .ok (.ireturn, 1) := by decide +kernel
theorem d_Reader_readNumber_51 : decode (ab_bc mt_Reader_readNumber) 51 = .ok (.aload_n 0, 1) := by decide +kernel
theorem d_Reader_readNumber_52 : decode (ab_bc mt_Reader_readNumber) 52 = .ok (.getfield 21, 3) := by decide +kernel
theorem d_Reader_readNumber_55 : decode (ab_bc mt_Reader_readNumber) 55 = .ok (.ireturn, 1) := by decide +kernel
-- CableKeeper$Reader.readNumber(II)I over kx_reader
theorem q_Reader_readNumber_0 {w : ab_Wd} {d n nc ns : Nat} {I : Nat → Nat → Int32} {L : Nat → Nat → Int64} {res : ab_Re} (v1 : Int32) (v2 : Int32) (hc : nc ≤ res.2.2.2.2.2.1) (hs : ns ≤ res.2.2.2.2.2.2)
    (h : (((I kx_reader 4) = 2 → ((3 < ((I kx_reader 3) - (I kx_reader 5)) → (ab_E w (d + 1) mt_Reader_readNumber 44 [.ref kx_reader, .int v1, .int v2] [] (I, L, ab_RR, n, nc, ns) res)) ∧ (¬ 3 < ((I kx_reader 3) - (I kx_reader 5)) → (((I kx_reader 6) < v1 → (ab_E w (d + 1) mt_Reader_readNumber 44 [.ref kx_reader, .int v1, .int v2] [] (I, L, ab_RR, n, nc, ns) res)) ∧ (¬ (I kx_reader 6) < v1 → (((I kx_reader 6) ≤ v2 → (res = (.inl (some (.int (I kx_reader 6))), (I, L, ab_RR, n, nc, ns)))) ∧ (¬ (I kx_reader 6) ≤ v2 → (ab_E w (d + 1) mt_Reader_readNumber 44 [.ref kx_reader, .int v1, .int v2] [] (I, L, ab_RR, n, nc, ns) res)))))))) ∧ (¬ (I kx_reader 4) = 2 → (∃ (I6 : Nat → Nat → Int32), ab_C w d mt_Reader_fail [.ref kx_reader, .int 1] (I, L, ab_RR, n, nc, ns) (.inl none, (I6, L, ab_RR, n, nc, ns)) ∧ res = (.inl (some (.int v1)), (I6, L, ab_RR, n, nc, ns)))))) : ab_E w (d + 1) mt_Reader_readNumber 0 [.ref kx_reader, .int v1, .int v2] [] (I, L, ab_RR, n, nc, ns) res := by
  refine ab_aload_n (i := 0) d_Reader_readNumber_0 rfl rfl ?_
  refine ab_getI (ci := 4) (k := 4) d_Reader_readNumber_1 v_771 rfl (by decide) (by decide) rfl ?_
  refine ab_iconst (v := 2) d_Reader_readNumber_4 rfl ?_
  refine ab_icmp_eq (tgt := 15) d_Reader_readNumber_5 (by decide) (fun c1 => ?_) (fun c1 => ?_)
  · have h := h.1 c1
    refine ab_aload_n (i := 0) d_Reader_readNumber_15 rfl rfl ?_
    refine ab_getI (ci := 4) (k := 3) d_Reader_readNumber_16 v_770 rfl (by decide) (by decide) rfl ?_
    refine ab_aload_n (i := 0) d_Reader_readNumber_19 rfl rfl ?_
    refine ab_getI (ci := 4) (k := 5) d_Reader_readNumber_20 v_772 rfl (by decide) (by decide) rfl ?_
    refine ab_isub d_Reader_readNumber_23 ?_
    refine ab_iconst (v := 3) d_Reader_readNumber_24 rfl ?_
    refine ab_icmp_gt (tgt := 44) d_Reader_readNumber_25 (by decide) (fun c2 => ?_) (fun c2 => ?_)
    · have h := h.1 c2
      exact h
    · have h := h.2 c2
      refine ab_aload_n (i := 0) d_Reader_readNumber_28 rfl rfl ?_
      refine ab_getI (ci := 4) (k := 6) d_Reader_readNumber_29 v_773 rfl (by decide) (by decide) rfl ?_
      refine ab_iload_n (i := 1) d_Reader_readNumber_32 rfl rfl ?_
      refine ab_icmp_lt (tgt := 44) d_Reader_readNumber_33 (by decide) (fun c3 => ?_) (fun c3 => ?_)
      · have h := h.1 c3
        exact h
      · have h := h.2 c3
        refine ab_aload_n (i := 0) d_Reader_readNumber_36 rfl rfl ?_
        refine ab_getI (ci := 4) (k := 6) d_Reader_readNumber_37 v_773 rfl (by decide) (by decide) rfl ?_
        refine ab_iload_n (i := 2) d_Reader_readNumber_40 rfl rfl ?_
        refine ab_icmp_le (tgt := 51) d_Reader_readNumber_41 (by decide) (fun c4 => ?_) (fun c4 => ?_)
        · have h := h.1 c4
          refine ab_aload_n (i := 0) d_Reader_readNumber_51 rfl rfl ?_
          refine ab_getI (ci := 4) (k := 6) d_Reader_readNumber_52 v_773 rfl (by decide) (by decide) rfl ?_
          exact ab_iret (ty := .int) d_Reader_readNumber_55 rfl rfl h
        · have h := h.2 c4
          exact h
  · have h := h.2 c1
    refine ab_aload_n (i := 0) d_Reader_readNumber_8 rfl rfl ?_
    refine ab_iconst (v := 1) d_Reader_readNumber_9 rfl ?_
    obtain ⟨I6, hC, h⟩ := h
    refine ab_callV (me2 := mt_Reader_fail) (b := kx_reader) (as := [.int 1]) (st := []) (rv := none) (M2 := (I6, L, ab_RR, n, nc, ns)) d_Reader_readNumber_10 ce_Reader_fail v_885 v_887 v_22 (by decide) rfl (Nat.le_of_ble_eq_true rfl) hC (Nat.le_refl _) (Nat.le_refl _) hc hs (fun j h9 => by cases h9) (fun _ _ => rfl) ?_
    show ab_E w (d + 1) mt_Reader_readNumber 13 [.ref kx_reader, .int v1, .int v2] [] (I6, L, ab_RR, n, nc, ns) res
    refine ab_iload_n (i := 1) d_Reader_readNumber_13 rfl rfl ?_
    exact ab_iret (ty := .int) d_Reader_readNumber_14 rfl rfl h
theorem q_Reader_readNumber_44 {w : ab_Wd} {d n nc ns : Nat} {I : Nat → Nat → Int32} {L : Nat → Nat → Int64} {res : ab_Re} (v1 : Int32) (v2 : Int32) (hc : nc ≤ res.2.2.2.2.2.1) (hs : ns ≤ res.2.2.2.2.2.2)
    (h : ∃ (I2 : Nat → Nat → Int32), ab_C w d mt_Reader_fail [.ref kx_reader, .int 2] (I, L, ab_RR, n, nc, ns) (.inl none, (I2, L, ab_RR, n, nc, ns)) ∧ res = (.inl (some (.int v1)), (I2, L, ab_RR, n, nc, ns))) : ab_E w (d + 1) mt_Reader_readNumber 44 [.ref kx_reader, .int v1, .int v2] [] (I, L, ab_RR, n, nc, ns) res := by
  refine ab_aload_n (i := 0) d_Reader_readNumber_44 rfl rfl ?_
  refine ab_iconst (v := 2) d_Reader_readNumber_45 rfl ?_
  obtain ⟨I2, hC, h⟩ := h
  refine ab_callV (me2 := mt_Reader_fail) (b := kx_reader) (as := [.int 2]) (st := []) (rv := none) (M2 := (I2, L, ab_RR, n, nc, ns)) d_Reader_readNumber_46 ce_Reader_fail v_885 v_887 v_22 (by decide) rfl (Nat.le_of_ble_eq_true rfl) hC (Nat.le_refl _) (Nat.le_refl _) hc hs (fun j h9 => by cases h9) (fun _ _ => rfl) ?_
  show ab_E w (d + 1) mt_Reader_readNumber 49 [.ref kx_reader, .int v1, .int v2] [] (I2, L, ab_RR, n, nc, ns) res
  refine ab_iload_n (i := 1) d_Reader_readNumber_49 rfl rfl ?_
  exact ab_iret (ty := .int) d_Reader_readNumber_50 rfl rfl h
theorem d_Reader_readSite_0 : decode (ab_bc mt_Reader_readSite) 0 = .ok (.aload_n 0, 1) := by decide +kernel
theorem d_Reader_readSite_1 : decode (ab_bc mt_Reader_readSite) 1 = .ok (.iconst 0, 1) := by decide +kernel
theorem d_Reader_readSite_2 : decode (ab_bc mt_Reader_readSite) 2 = .ok (.bipush 9, 2) := by decide +kernel
theorem d_Reader_readSite_4 : decode (ab_bc mt_Reader_readSite) 4 = .ok (.invokevirtual 79, 3) := by decide +kernel
theorem d_Reader_readSite_7 : decode (ab_bc mt_Reader_readSite) 7 = .ok (.istore_n 1, 1) := by decide +kernel
theorem d_Reader_readSite_8 : decode (ab_bc mt_Reader_readSite) 8 = .ok (.iload_n 1, 1) := by decide +kernel
theorem d_Reader_readSite_9 : decode (ab_bc mt_Reader_readSite) 9 = .ok (.aload_n 0, 1) := by decide +kernel
theorem d_Reader_readSite_10 : decode (ab_bc mt_Reader_readSite) 10 = .ok (.getfield 37, 3) := by decide +kernel
theorem d_Reader_readSite_13 : decode (ab_bc mt_Reader_readSite) 13 = .ok (.getfield 83, 3) := by decide +kernel
theorem d_Reader_readSite_16 : decode (ab_bc mt_Reader_readSite) 16 = .ok (.if_icmp .lt 8, 3) := by decide +kernel
theorem d_Reader_readSite_19 : decode (ab_bc mt_Reader_readSite) 19 = .ok (.aload_n 0, 1) := by decide +kernel
theorem d_Reader_readSite_20 : decode (ab_bc mt_Reader_readSite) 20 = .ok (.iconst 3, 1) := by decide +kernel
theorem d_Reader_readSite_21 : decode (ab_bc mt_Reader_readSite) 21 = .ok (.invokevirtual 75, 3) := by decide +kernel
theorem d_Reader_readSite_24 : decode (ab_bc mt_Reader_readSite) 24 = .ok (.iload_n 1, 1) := by decide +kernel
theorem d_Reader_readSite_25 : decode (ab_bc mt_Reader_readSite) 25 = .ok (.ireturn, 1) := by decide +kernel
-- CableKeeper$Reader.readSite()I over kx_reader
theorem q_Reader_readSite_0 {w : ab_Wd} {d n nc ns : Nat} {I : Nat → Nat → Int32} {L : Nat → Nat → Int64} {res : ab_Re}  (hc : nc ≤ res.2.2.2.2.2.1) (hs : ns ≤ res.2.2.2.2.2.2)
    (h : ∃ (r1 : Int32) (I2 : Nat → Nat → Int32), ab_C w d mt_Reader_readNumber [.ref kx_reader, .int 0, .int 9] (I, L, ab_RR, n, nc, ns) (.inl (some (.int r1)), (I2, L, ab_RR, n, nc, ns)) ∧ ((r1 < (I2 kx_trial 0) → (ab_E w (d + 1) mt_Reader_readSite 24 [.ref kx_reader, .int r1] [] (I2, L, ab_RR, n, nc, ns) res)) ∧ (¬ r1 < (I2 kx_trial 0) → (∃ (I5 : Nat → Nat → Int32), ab_C w d mt_Reader_fail [.ref kx_reader, .int 3] (I2, L, ab_RR, n, nc, ns) (.inl none, (I5, L, ab_RR, n, nc, ns)) ∧ ab_E w (d + 1) mt_Reader_readSite 24 [.ref kx_reader, .int r1] [] (I5, L, ab_RR, n, nc, ns) res)))) : ab_E w (d + 1) mt_Reader_readSite 0 [.ref kx_reader, .null] [] (I, L, ab_RR, n, nc, ns) res := by
  refine ab_aload_n (i := 0) d_Reader_readSite_0 rfl rfl ?_
  refine ab_iconst (v := 0) d_Reader_readSite_1 rfl ?_
  refine ab_bipush (v := 9) d_Reader_readSite_2 rfl ?_
  obtain ⟨r1, I2, hC, h⟩ := h
  refine ab_callV (me2 := mt_Reader_readNumber) (b := kx_reader) (as := [.int 0, .int 9]) (st := []) (rv := (some (.int r1))) (M2 := (I2, L, ab_RR, n, nc, ns)) d_Reader_readSite_4 ce_Reader_readNumber v_889 v_891 v_23 (by decide) rfl (Nat.le_of_ble_eq_true rfl) hC (Nat.le_refl _) (Nat.le_refl _) hc hs (fun j h9 => by cases h9) (fun _ _ => rfl) ?_
  show ab_E w (d + 1) mt_Reader_readSite 7 [.ref kx_reader, .null] [.int r1] (I2, L, ab_RR, n, nc, ns) res
  refine ab_istore_n (i := 1) d_Reader_readSite_7 rfl (by decide) (Or.inr rfl) ?_
  refine ab_iload_n (i := 1) d_Reader_readSite_8 rfl rfl ?_
  refine ab_aload_n (i := 0) d_Reader_readSite_9 rfl rfl ?_
  refine ab_getR (ci := 4) (k := 2) (j := kx_trial) d_Reader_readSite_10 v_769 rfl (by decide) (by decide) rfl r_kx_reader_2 ?_
  refine ab_getI (ci := 1) (k := 0) d_Reader_readSite_13 v_189 rfl (by decide) (by decide) rfl ?_
  refine ab_icmp_lt (tgt := 24) d_Reader_readSite_16 (by decide) (fun c3 => ?_) (fun c3 => ?_)
  · have h := h.1 c3
    exact h
  · have h := h.2 c3
    refine ab_aload_n (i := 0) d_Reader_readSite_19 rfl rfl ?_
    refine ab_iconst (v := 3) d_Reader_readSite_20 rfl ?_
    obtain ⟨I5, hC, h⟩ := h
    refine ab_callV (me2 := mt_Reader_fail) (b := kx_reader) (as := [.int 3]) (st := []) (rv := none) (M2 := (I5, L, ab_RR, n, nc, ns)) d_Reader_readSite_21 ce_Reader_fail v_885 v_887 v_22 (by decide) rfl (Nat.le_of_ble_eq_true rfl) hC (Nat.le_refl _) (Nat.le_refl _) hc hs (fun j h9 => by cases h9) (fun _ _ => rfl) ?_
    show ab_E w (d + 1) mt_Reader_readSite 24 [.ref kx_reader, .int r1] [] (I5, L, ab_RR, n, nc, ns) res
    exact h
theorem q_Reader_readSite_24 {w : ab_Wd} {d n nc ns : Nat} {I : Nat → Nat → Int32} {L : Nat → Nat → Int64} {res : ab_Re} (v1 : Int32) (hc : nc ≤ res.2.2.2.2.2.1) (hs : ns ≤ res.2.2.2.2.2.2)
    (h : res = (.inl (some (.int v1)), (I, L, ab_RR, n, nc, ns))) : ab_E w (d + 1) mt_Reader_readSite 24 [.ref kx_reader, .int v1] [] (I, L, ab_RR, n, nc, ns) res := by
  refine ab_iload_n (i := 1) d_Reader_readSite_24 rfl rfl ?_
  exact ab_iret (ty := .int) d_Reader_readSite_25 rfl rfl h
