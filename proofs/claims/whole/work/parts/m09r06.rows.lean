theorem cx_M_isLetter_0 {w : ab_Wd} {d n nc ns : Nat} {I : Nat → Nat → Int32} {L : Nat → Nat → Int64} (v0 : Int32) (hT : w.1.stackTraces = false) (e1 : v0 < 97) : ab_C w d mt_M_isLetter [.int v0] (I, L, ab_RR, n, nc, ns) (.inl (some (.int 0)), (I, L, ab_RR, n, nc, ns)) := by
  refine ab_C_of (by decide) rfl (Nat.le_of_ble_eq_true rfl) hT ?_
  have hc := Nat.le_refl nc
  have hs := Nat.le_refl ns
  refine ab_iload_n (i := 0) d_M_isLetter_0 rfl rfl ?_
  refine ab_bipush (v := 97) d_M_isLetter_1 rfl ?_
  refine ab_icmp_lt (tgt := 16) d_M_isLetter_3 (by decide) (fun _ => ?_) (fun c9 => absurd e1 c9)
  refine ab_iconst (v := 0) d_M_isLetter_16 rfl ?_
  exact ab_iret (ty := .boolean) d_M_isLetter_17 rfl rfl rfl
theorem cx_M_isLetter_1 {w : ab_Wd} {d n nc ns : Nat} {I : Nat → Nat → Int32} {L : Nat → Nat → Int64} (v0 : Int32) (hT : w.1.stackTraces = false) (e1 : ¬ v0 < 97) (e2 : 122 < v0) : ab_C w d mt_M_isLetter [.int v0] (I, L, ab_RR, n, nc, ns) (.inl (some (.int 0)), (I, L, ab_RR, n, nc, ns)) := by
  refine ab_C_of (by decide) rfl (Nat.le_of_ble_eq_true rfl) hT ?_
  have hc := Nat.le_refl nc
  have hs := Nat.le_refl ns
  refine ab_iload_n (i := 0) d_M_isLetter_0 rfl rfl ?_
  refine ab_bipush (v := 97) d_M_isLetter_1 rfl ?_
  refine ab_icmp_lt (tgt := 16) d_M_isLetter_3 (by decide) (fun c9 => absurd c9 e1) (fun _ => ?_)
  refine ab_iload_n (i := 0) d_M_isLetter_6 rfl rfl ?_
  refine ab_bipush (v := 122) d_M_isLetter_7 rfl ?_
  refine ab_icmp_gt (tgt := 16) d_M_isLetter_9 (by decide) (fun _ => ?_) (fun c9 => absurd e2 c9)
  refine ab_iconst (v := 0) d_M_isLetter_16 rfl ?_
  exact ab_iret (ty := .boolean) d_M_isLetter_17 rfl rfl rfl
theorem cx_M_isLetter_2 {w : ab_Wd} {d n nc ns : Nat} {I : Nat → Nat → Int32} {L : Nat → Nat → Int64} (v0 : Int32) (hT : w.1.stackTraces = false) (e1 : ¬ v0 < 97) (e2 : ¬ 122 < v0) : ab_C w d mt_M_isLetter [.int v0] (I, L, ab_RR, n, nc, ns) (.inl (some (.int 1)), (I, L, ab_RR, n, nc, ns)) := by
  refine ab_C_of (by decide) rfl (Nat.le_of_ble_eq_true rfl) hT ?_
  have hc := Nat.le_refl nc
  have hs := Nat.le_refl ns
  refine ab_iload_n (i := 0) d_M_isLetter_0 rfl rfl ?_
  refine ab_bipush (v := 97) d_M_isLetter_1 rfl ?_
  refine ab_icmp_lt (tgt := 16) d_M_isLetter_3 (by decide) (fun c9 => absurd c9 e1) (fun _ => ?_)
  refine ab_iload_n (i := 0) d_M_isLetter_6 rfl rfl ?_
  refine ab_bipush (v := 122) d_M_isLetter_7 rfl ?_
  refine ab_icmp_gt (tgt := 16) d_M_isLetter_9 (by decide) (fun c9 => absurd c9 e2) (fun _ => ?_)
  refine ab_iconst (v := 1) d_M_isLetter_12 rfl ?_
  refine ab_goto (tgt := 17) d_M_isLetter_13 (by decide) ?_
  exact ab_iret (ty := .boolean) d_M_isLetter_17 rfl rfl rfl
theorem cx_M_isDigit_0 {w : ab_Wd} {d n nc ns : Nat} {I : Nat → Nat → Int32} {L : Nat → Nat → Int64} (v0 : Int32) (hT : w.1.stackTraces = false) (e1 : v0 < 48) : ab_C w d mt_M_isDigit [.int v0] (I, L, ab_RR, n, nc, ns) (.inl (some (.int 0)), (I, L, ab_RR, n, nc, ns)) := by
  refine ab_C_of (by decide) rfl (Nat.le_of_ble_eq_true rfl) hT ?_
  have hc := Nat.le_refl nc
  have hs := Nat.le_refl ns
  refine ab_iload_n (i := 0) d_M_isDigit_0 rfl rfl ?_
  refine ab_bipush (v := 48) d_M_isDigit_1 rfl ?_
  refine ab_icmp_lt (tgt := 16) d_M_isDigit_3 (by decide) (fun _ => ?_) (fun c9 => absurd e1 c9)
  refine ab_iconst (v := 0) d_M_isDigit_16 rfl ?_
  exact ab_iret (ty := .boolean) d_M_isDigit_17 rfl rfl rfl
theorem cx_M_isDigit_1 {w : ab_Wd} {d n nc ns : Nat} {I : Nat → Nat → Int32} {L : Nat → Nat → Int64} (v0 : Int32) (hT : w.1.stackTraces = false) (e1 : ¬ v0 < 48) (e2 : 57 < v0) : ab_C w d mt_M_isDigit [.int v0] (I, L, ab_RR, n, nc, ns) (.inl (some (.int 0)), (I, L, ab_RR, n, nc, ns)) := by
  refine ab_C_of (by decide) rfl (Nat.le_of_ble_eq_true rfl) hT ?_
  have hc := Nat.le_refl nc
  have hs := Nat.le_refl ns
  refine ab_iload_n (i := 0) d_M_isDigit_0 rfl rfl ?_
  refine ab_bipush (v := 48) d_M_isDigit_1 rfl ?_
  refine ab_icmp_lt (tgt := 16) d_M_isDigit_3 (by decide) (fun c9 => absurd c9 e1) (fun _ => ?_)
  refine ab_iload_n (i := 0) d_M_isDigit_6 rfl rfl ?_
  refine ab_bipush (v := 57) d_M_isDigit_7 rfl ?_
  refine ab_icmp_gt (tgt := 16) d_M_isDigit_9 (by decide) (fun _ => ?_) (fun c9 => absurd e2 c9)
  refine ab_iconst (v := 0) d_M_isDigit_16 rfl ?_
  exact ab_iret (ty := .boolean) d_M_isDigit_17 rfl rfl rfl
theorem cx_M_isDigit_2 {w : ab_Wd} {d n nc ns : Nat} {I : Nat → Nat → Int32} {L : Nat → Nat → Int64} (v0 : Int32) (hT : w.1.stackTraces = false) (e1 : ¬ v0 < 48) (e2 : ¬ 57 < v0) : ab_C w d mt_M_isDigit [.int v0] (I, L, ab_RR, n, nc, ns) (.inl (some (.int 1)), (I, L, ab_RR, n, nc, ns)) := by
  refine ab_C_of (by decide) rfl (Nat.le_of_ble_eq_true rfl) hT ?_
  have hc := Nat.le_refl nc
  have hs := Nat.le_refl ns
  refine ab_iload_n (i := 0) d_M_isDigit_0 rfl rfl ?_
  refine ab_bipush (v := 48) d_M_isDigit_1 rfl ?_
  refine ab_icmp_lt (tgt := 16) d_M_isDigit_3 (by decide) (fun c9 => absurd c9 e1) (fun _ => ?_)
  refine ab_iload_n (i := 0) d_M_isDigit_6 rfl rfl ?_
  refine ab_bipush (v := 57) d_M_isDigit_7 rfl ?_
  refine ab_icmp_gt (tgt := 16) d_M_isDigit_9 (by decide) (fun c9 => absurd c9 e2) (fun _ => ?_)
  refine ab_iconst (v := 1) d_M_isDigit_12 rfl ?_
  refine ab_goto (tgt := 17) d_M_isDigit_13 (by decide) ?_
  exact ab_iret (ty := .boolean) d_M_isDigit_17 rfl rfl rfl
theorem r_M_stepOn_0 {w : ab_Wd} {d n nc ns : Nat} {I : Nat → Nat → Int32} {L : Nat → Nat → Int64} {res : ab_Re} (hT : w.1.stackTraces = false)  (hc : nc ≤ res.2.2.2.2.2.1) (hs : ns ≤ res.2.2.2.2.2.2)
    (h : (((I mx 10) ≤ (I mx 9) → (res = (.inl none, ((ab_up (ab_up (ab_up I mx 13 (I mx 9)) mx 11 0) mx 14 (I mx 9)), L, ab_RR, n, nc, ns)))) ∧ (¬ (I mx 10) ≤ (I mx 9) → ((vp_in (I mx 9) 700) ∧ (((I mx_tape (I mx 9).toNatClampNeg) = 32 → (ab_E w (d + 1) mt_M_stepOn 0 [.ref mx, .null] [] ((ab_up I mx 9 ((I mx 9) + 1)), L, ab_RR, n, nc, ns) res)) ∧ (¬ (I mx_tape (I mx 9).toNatClampNeg) = 32 → ((¬ (I mx_tape (I mx 9).toNatClampNeg) = 10 → ((¬ (I mx_tape (I mx 9).toNatClampNeg) = (-1) → (((I mx_tape (I mx 9).toNatClampNeg) < 97 → (((I mx_tape (I mx 9).toNatClampNeg) < 48 → ((¬ (I mx_tape (I mx 9).toNatClampNeg) = 59 → (res = (.inl none, ((ab_up (ab_up (ab_up (ab_up I mx 13 (I mx 9)) mx 9 ((I mx 9) + 1)) mx 11 4) mx 14 ((I mx 9) + 1)), L, ab_RR, n, nc, ns)))) ∧ ((I mx_tape (I mx 9).toNatClampNeg) = 59 → (res = (.inl none, ((ab_up (ab_up (ab_up (ab_up I mx 13 (I mx 9)) mx 9 ((I mx 9) + 1)) mx 11 3) mx 14 ((I mx 9) + 1)), L, ab_RR, n, nc, ns)))))) ∧ (¬ (I mx_tape (I mx 9).toNatClampNeg) < 48 → ((57 < (I mx_tape (I mx 9).toNatClampNeg) → ((¬ (I mx_tape (I mx 9).toNatClampNeg) = 59 → (res = (.inl none, ((ab_up (ab_up (ab_up (ab_up I mx 13 (I mx 9)) mx 9 ((I mx 9) + 1)) mx 11 4) mx 14 ((I mx 9) + 1)), L, ab_RR, n, nc, ns)))) ∧ ((I mx_tape (I mx 9).toNatClampNeg) = 59 → (res = (.inl none, ((ab_up (ab_up (ab_up (ab_up I mx 13 (I mx 9)) mx 9 ((I mx 9) + 1)) mx 11 3) mx 14 ((I mx 9) + 1)), L, ab_RR, n, nc, ns)))))) ∧ (¬ 57 < (I mx_tape (I mx 9).toNatClampNeg) → (ab_E w (d + 1) mt_M_stepOn 123 [.ref mx, .int (I mx_tape (I mx 9).toNatClampNeg)] [] ((ab_up (ab_up I mx 13 (I mx 9)) mx 12 0), L, ab_RR, n, nc, ns) res)))))) ∧ (¬ (I mx_tape (I mx 9).toNatClampNeg) < 97 → ((122 < (I mx_tape (I mx 9).toNatClampNeg) → (((I mx_tape (I mx 9).toNatClampNeg) < 48 → ((¬ (I mx_tape (I mx 9).toNatClampNeg) = 59 → (res = (.inl none, ((ab_up (ab_up (ab_up (ab_up I mx 13 (I mx 9)) mx 9 ((I mx 9) + 1)) mx 11 4) mx 14 ((I mx 9) + 1)), L, ab_RR, n, nc, ns)))) ∧ ((I mx_tape (I mx 9).toNatClampNeg) = 59 → (res = (.inl none, ((ab_up (ab_up (ab_up (ab_up I mx 13 (I mx 9)) mx 9 ((I mx 9) + 1)) mx 11 3) mx 14 ((I mx 9) + 1)), L, ab_RR, n, nc, ns)))))) ∧ (¬ (I mx_tape (I mx 9).toNatClampNeg) < 48 → ((57 < (I mx_tape (I mx 9).toNatClampNeg) → ((¬ (I mx_tape (I mx 9).toNatClampNeg) = 59 → (res = (.inl none, ((ab_up (ab_up (ab_up (ab_up I mx 13 (I mx 9)) mx 9 ((I mx 9) + 1)) mx 11 4) mx 14 ((I mx 9) + 1)), L, ab_RR, n, nc, ns)))) ∧ ((I mx_tape (I mx 9).toNatClampNeg) = 59 → (res = (.inl none, ((ab_up (ab_up (ab_up (ab_up I mx 13 (I mx 9)) mx 9 ((I mx 9) + 1)) mx 11 3) mx 14 ((I mx 9) + 1)), L, ab_RR, n, nc, ns)))))) ∧ (¬ 57 < (I mx_tape (I mx 9).toNatClampNeg) → (ab_E w (d + 1) mt_M_stepOn 123 [.ref mx, .int (I mx_tape (I mx 9).toNatClampNeg)] [] ((ab_up (ab_up I mx 13 (I mx 9)) mx 12 0), L, ab_RR, n, nc, ns) res)))))) ∧ (¬ 122 < (I mx_tape (I mx 9).toNatClampNeg) → (ab_E w (d + 1) mt_M_stepOn 76 [.ref mx, .int (I mx_tape (I mx 9).toNatClampNeg)] [] ((ab_up I mx 13 (I mx 9)), L, ab_RR, n, nc, ns) res)))))) ∧ ((I mx_tape (I mx 9).toNatClampNeg) = (-1) → (res = (.inl none, ((ab_up (ab_up (ab_up I mx 13 (I mx 9)) mx 11 0) mx 14 (I mx 9)), L, ab_RR, n, nc, ns)))))) ∧ ((I mx_tape (I mx 9).toNatClampNeg) = 10 → (ab_E w (d + 1) mt_M_stepOn 0 [.ref mx, .null] [] ((ab_up I mx 9 ((I mx 9) + 1)), L, ab_RR, n, nc, ns) res))))))))) : ab_E w (d + 1) mt_M_stepOn 0 [.ref mx, .null] [] (I, L, ab_RR, n, nc, ns) res := by
  refine ab_aload_n (i := 0) d_M_stepOn_0 rfl rfl ?_
  refine ab_aload_n (i := 0) d_M_stepOn_1 rfl rfl ?_
  refine ab_getI (ci := 11) (k := 9) d_M_stepOn_2 v_1377 rfl (by decide) (by decide) rfl ?_
  by_cases c2 : (I mx 10) ≤ (I mx 9)
  · have h := h.1 c2
    refine ab_callV (me2 := mt_M_byteAt) (b := mx) (as := [.int (I mx 9)]) (st := []) (rv := (some (.int (-1)))) (M2 := (I, L, ab_RR, n, nc, ns)) d_M_stepOn_5 ce_M_byteAt v_1570 v_1572 v_68 (by decide) rfl (Nat.le_of_ble_eq_true rfl) (cx_M_byteAt_0 (I mx 9) hT c2) (Nat.le_refl _) (Nat.le_refl _) hc hs (fun j h9 => by cases h9) (fun _ _ => rfl) ?_
    show ab_E w (d + 1) mt_M_stepOn 8 [.ref mx, .null] [.int (-1)] (I, L, ab_RR, n, nc, ns) res
    refine ab_bipush (v := 32) d_M_stepOn_8 rfl ?_
    refine ab_icmp_eq (tgt := 26) d_M_stepOn_10 (by decide) (fun c9 => absurd c9 (show ¬ ((-1) : Int32) = 32 from by decide)) (fun _ => ?_)
    refine ab_aload_n (i := 0) d_M_stepOn_13 rfl rfl ?_
    refine ab_aload_n (i := 0) d_M_stepOn_14 rfl rfl ?_
    refine ab_getI (ci := 11) (k := 9) d_M_stepOn_15 v_1377 rfl (by decide) (by decide) rfl ?_
    refine ab_callV (me2 := mt_M_byteAt) (b := mx) (as := [.int (I mx 9)]) (st := []) (rv := (some (.int (-1)))) (M2 := (I, L, ab_RR, n, nc, ns)) d_M_stepOn_18 ce_M_byteAt v_1570 v_1572 v_68 (by decide) rfl (Nat.le_of_ble_eq_true rfl) (cx_M_byteAt_0 (I mx 9) hT c2) (Nat.le_refl _) (Nat.le_refl _) hc hs (fun j h9 => by cases h9) (fun _ _ => rfl) ?_
    show ab_E w (d + 1) mt_M_stepOn 21 [.ref mx, .null] [.int (-1)] (I, L, ab_RR, n, nc, ns) res
    refine ab_bipush (v := 10) d_M_stepOn_21 rfl ?_
    refine ab_icmp_ne (tgt := 39) d_M_stepOn_23 (by decide) (fun _ => ?_) (fun c9 => absurd c9 (show ¬ ((-1) : Int32) = 10 from by decide))
    refine ab_aload_n (i := 0) d_M_stepOn_39 rfl rfl ?_
    refine ab_aload_n (i := 0) d_M_stepOn_40 rfl rfl ?_
    refine ab_getI (ci := 11) (k := 9) d_M_stepOn_41 v_1377 rfl (by decide) (by decide) rfl ?_
    refine ab_putI (ci := 11) (k := 13) d_M_stepOn_44 v_1381 rfl (by decide) (by decide) rfl (Or.inl rfl) rfl rfl ?_
    refine ab_aload_n (i := 0) d_M_stepOn_47 rfl rfl ?_
    refine ab_aload_n (i := 0) d_M_stepOn_48 rfl rfl ?_
    refine ab_getI (ci := 11) (k := 9) d_M_stepOn_49 v_1377 rfl (by decide) (by decide) rfl ?_
    refine ab_callV (me2 := mt_M_byteAt) (b := mx) (as := [.int (I mx 9)]) (st := []) (rv := (some (.int (-1)))) (M2 := ((ab_up I mx 13 (I mx 9)), L, ab_RR, n, nc, ns)) d_M_stepOn_52 ce_M_byteAt v_1570 v_1572 v_68 (by decide) rfl (Nat.le_of_ble_eq_true rfl) (cx_M_byteAt_0 (I mx 9) hT c2) (Nat.le_refl _) (Nat.le_refl _) hc hs (fun j h9 => by cases h9) (fun _ _ => rfl) ?_
    show ab_E w (d + 1) mt_M_stepOn 55 [.ref mx, .null] [.int (-1)] ((ab_up I mx 13 (I mx 9)), L, ab_RR, n, nc, ns) res
    refine ab_istore_n (i := 1) d_M_stepOn_55 rfl (by decide) (Or.inr rfl) ?_
    refine ab_iload_n (i := 1) d_M_stepOn_56 rfl rfl ?_
    refine ab_iconst (v := (-1)) d_M_stepOn_57 rfl ?_
    refine ab_icmp_ne (tgt := 69) d_M_stepOn_58 (by decide) (fun c9 => absurd (show ((-1) : Int32) = (-1) from by decide) c9) (fun _ => ?_)
    refine ab_aload_n (i := 0) d_M_stepOn_61 rfl rfl ?_
    refine ab_iconst (v := 0) d_M_stepOn_62 rfl ?_
    refine ab_putI (ci := 11) (k := 11) d_M_stepOn_63 v_1379 rfl (by decide) (by decide) rfl (Or.inl rfl) rfl rfl ?_
    refine ab_goto (tgt := 211) d_M_stepOn_66 (by decide) ?_
    refine ab_aload_n (i := 0) d_M_stepOn_211 rfl rfl ?_
    refine ab_aload_n (i := 0) d_M_stepOn_212 rfl rfl ?_
    refine ab_getI (ci := 11) (k := 9) d_M_stepOn_213 v_1377 rfl (by decide) (by decide) rfl ?_
    refine ab_putI (ci := 11) (k := 14) d_M_stepOn_216 v_1382 rfl (by decide) (by decide) rfl (Or.inl rfl) rfl rfl ?_
    exact ab_vret d_M_stepOn_219 rfl h
  · have h := h.2 c2
    have g5 := h.1; have h := h.2
    refine ab_callV (me2 := mt_M_byteAt) (b := mx) (as := [.int (I mx 9)]) (st := []) (rv := (some (.int (I mx_tape (I mx 9).toNatClampNeg)))) (M2 := (I, L, ab_RR, n, nc, ns)) d_M_stepOn_5 ce_M_byteAt v_1570 v_1572 v_68 (by decide) rfl (Nat.le_of_ble_eq_true rfl) (cx_M_byteAt_1 (I mx 9) hT c2 g5) (Nat.le_refl _) (Nat.le_refl _) hc hs (fun j h9 => by cases h9) (fun _ _ => rfl) ?_
    show ab_E w (d + 1) mt_M_stepOn 8 [.ref mx, .null] [.int (I mx_tape (I mx 9).toNatClampNeg)] (I, L, ab_RR, n, nc, ns) res
    refine ab_bipush (v := 32) d_M_stepOn_8 rfl ?_
    refine ab_icmp_eq (tgt := 26) d_M_stepOn_10 (by decide) (fun c6 => ?_) (fun c6 => ?_)
    · have h := h.1 c6
      refine ab_aload_n (i := 0) d_M_stepOn_26 rfl rfl ?_
      refine ab_dupr d_M_stepOn_27 ?_
      refine ab_getI (ci := 11) (k := 9) d_M_stepOn_28 v_1377 rfl (by decide) (by decide) rfl ?_
      refine ab_iconst (v := 1) d_M_stepOn_31 rfl ?_
      refine ab_iadd d_M_stepOn_32 ?_
      refine ab_putI (ci := 11) (k := 9) d_M_stepOn_33 v_1377 rfl (by decide) (by decide) rfl (Or.inl rfl) rfl rfl ?_
      refine ab_goto (tgt := 0) d_M_stepOn_36 (by decide) ?_
      exact h
    · have h := h.2 c6
      refine ab_aload_n (i := 0) d_M_stepOn_13 rfl rfl ?_
      refine ab_aload_n (i := 0) d_M_stepOn_14 rfl rfl ?_
      refine ab_getI (ci := 11) (k := 9) d_M_stepOn_15 v_1377 rfl (by decide) (by decide) rfl ?_
      refine ab_callV (me2 := mt_M_byteAt) (b := mx) (as := [.int (I mx 9)]) (st := []) (rv := (some (.int (I mx_tape (I mx 9).toNatClampNeg)))) (M2 := (I, L, ab_RR, n, nc, ns)) d_M_stepOn_18 ce_M_byteAt v_1570 v_1572 v_68 (by decide) rfl (Nat.le_of_ble_eq_true rfl) (cx_M_byteAt_1 (I mx 9) hT c2 g5) (Nat.le_refl _) (Nat.le_refl _) hc hs (fun j h9 => by cases h9) (fun _ _ => rfl) ?_
      show ab_E w (d + 1) mt_M_stepOn 21 [.ref mx, .null] [.int (I mx_tape (I mx 9).toNatClampNeg)] (I, L, ab_RR, n, nc, ns) res
      refine ab_bipush (v := 10) d_M_stepOn_21 rfl ?_
      refine ab_icmp_ne (tgt := 39) d_M_stepOn_23 (by decide) (fun c8 => ?_) (fun c8 => ?_)
      · have h := h.1 c8
        refine ab_aload_n (i := 0) d_M_stepOn_39 rfl rfl ?_
        refine ab_aload_n (i := 0) d_M_stepOn_40 rfl rfl ?_
        refine ab_getI (ci := 11) (k := 9) d_M_stepOn_41 v_1377 rfl (by decide) (by decide) rfl ?_
        refine ab_putI (ci := 11) (k := 13) d_M_stepOn_44 v_1381 rfl (by decide) (by decide) rfl (Or.inl rfl) rfl rfl ?_
        refine ab_aload_n (i := 0) d_M_stepOn_47 rfl rfl ?_
        refine ab_aload_n (i := 0) d_M_stepOn_48 rfl rfl ?_
        refine ab_getI (ci := 11) (k := 9) d_M_stepOn_49 v_1377 rfl (by decide) (by decide) rfl ?_
        refine ab_callV (me2 := mt_M_byteAt) (b := mx) (as := [.int (I mx 9)]) (st := []) (rv := (some (.int (I mx_tape (I mx 9).toNatClampNeg)))) (M2 := ((ab_up I mx 13 (I mx 9)), L, ab_RR, n, nc, ns)) d_M_stepOn_52 ce_M_byteAt v_1570 v_1572 v_68 (by decide) rfl (Nat.le_of_ble_eq_true rfl) (cx_M_byteAt_1 (I mx 9) hT c2 g5) (Nat.le_refl _) (Nat.le_refl _) hc hs (fun j h9 => by cases h9) (fun _ _ => rfl) ?_
        show ab_E w (d + 1) mt_M_stepOn 55 [.ref mx, .null] [.int (I mx_tape (I mx 9).toNatClampNeg)] ((ab_up I mx 13 (I mx 9)), L, ab_RR, n, nc, ns) res
        refine ab_istore_n (i := 1) d_M_stepOn_55 rfl (by decide) (Or.inr rfl) ?_
        refine ab_iload_n (i := 1) d_M_stepOn_56 rfl rfl ?_
        refine ab_iconst (v := (-1)) d_M_stepOn_57 rfl ?_
        refine ab_icmp_ne (tgt := 69) d_M_stepOn_58 (by decide) (fun c10 => ?_) (fun c10 => ?_)
        · have h := h.1 c10
          refine ab_iload_n (i := 1) d_M_stepOn_69 rfl rfl ?_
          by_cases c12 : (I mx_tape (I mx 9).toNatClampNeg) < 97
          · have h := h.1 c12
            refine ab_callS (me2 := mt_M_isLetter) (as := [.int (I mx_tape (I mx 9).toNatClampNeg)]) (st := []) (rv := (some (.int 0))) (M2 := ((ab_up I mx 13 (I mx 9)), L, ab_RR, n, nc, ns)) d_M_stepOn_70 ce_M_isLetter ⟨v_1575, Or.inl v_1574⟩ (Nat.le_of_ble_eq_true rfl) (cx_M_isLetter_0 (I mx_tape (I mx 9).toNatClampNeg) hT c12) (Nat.le_refl _) (Nat.le_refl _) hc hs (fun j h9 => by cases h9) (fun _ _ => rfl) ?_
            show ab_E w (d + 1) mt_M_stepOn 73 [.ref mx, .int (I mx_tape (I mx 9).toNatClampNeg)] [.int 0] ((ab_up I mx 13 (I mx 9)), L, ab_RR, n, nc, ns) res
            refine ab_if_eq (tgt := 111) d_M_stepOn_73 (by decide) (fun _ => ?_) (fun c9 => absurd (show (0 : Int32) = 0 from by decide) c9)
            refine ab_iload_n (i := 1) d_M_stepOn_111 rfl rfl ?_
            by_cases c14 : (I mx_tape (I mx 9).toNatClampNeg) < 48
            · have h := h.1 c14
              refine ab_callS (me2 := mt_M_isDigit) (as := [.int (I mx_tape (I mx 9).toNatClampNeg)]) (st := []) (rv := (some (.int 0))) (M2 := ((ab_up I mx 13 (I mx 9)), L, ab_RR, n, nc, ns)) d_M_stepOn_112 ce_M_isDigit ⟨v_1578, Or.inl v_1577⟩ (Nat.le_of_ble_eq_true rfl) (cx_M_isDigit_0 (I mx_tape (I mx 9).toNatClampNeg) hT c14) (Nat.le_refl _) (Nat.le_refl _) hc hs (fun j h9 => by cases h9) (fun _ _ => rfl) ?_
              show ab_E w (d + 1) mt_M_stepOn 115 [.ref mx, .int (I mx_tape (I mx 9).toNatClampNeg)] [.int 0] ((ab_up I mx 13 (I mx 9)), L, ab_RR, n, nc, ns) res
              refine ab_if_eq (tgt := 186) d_M_stepOn_115 (by decide) (fun _ => ?_) (fun c9 => absurd (show (0 : Int32) = 0 from by decide) c9)
              refine ab_aload_n (i := 0) d_M_stepOn_186 rfl rfl ?_
              refine ab_dupr d_M_stepOn_187 ?_
              refine ab_getI (ci := 11) (k := 9) d_M_stepOn_188 v_1377 rfl (by decide) (by decide) rfl ?_
              refine ab_iconst (v := 1) d_M_stepOn_191 rfl ?_
              refine ab_iadd d_M_stepOn_192 ?_
              refine ab_putI (ci := 11) (k := 9) d_M_stepOn_193 v_1377 rfl (by decide) (by decide) rfl (Or.inl rfl) rfl rfl ?_
              refine ab_aload_n (i := 0) d_M_stepOn_196 rfl rfl ?_
              refine ab_iload_n (i := 1) d_M_stepOn_197 rfl rfl ?_
              refine ab_bipush (v := 59) d_M_stepOn_198 rfl ?_
              refine ab_icmp_ne (tgt := 207) d_M_stepOn_200 (by decide) (fun c15 => ?_) (fun c15 => ?_)
              · have h := h.1 c15
                refine ab_iconst (v := 4) d_M_stepOn_207 rfl ?_
                refine ab_putI (ci := 11) (k := 11) d_M_stepOn_208 v_1379 rfl (by decide) (by decide) rfl (Or.inl rfl) rfl rfl ?_
                refine ab_aload_n (i := 0) d_M_stepOn_211 rfl rfl ?_
                refine ab_aload_n (i := 0) d_M_stepOn_212 rfl rfl ?_
                refine ab_getI (ci := 11) (k := 9) d_M_stepOn_213 v_1377 rfl (by decide) (by decide) rfl ?_
                refine ab_putI (ci := 11) (k := 14) d_M_stepOn_216 v_1382 rfl (by decide) (by decide) rfl (Or.inl rfl) rfl rfl ?_
                exact ab_vret d_M_stepOn_219 rfl h
              · have h := h.2 c15
                refine ab_iconst (v := 3) d_M_stepOn_203 rfl ?_
                refine ab_goto (tgt := 208) d_M_stepOn_204 (by decide) ?_
                refine ab_putI (ci := 11) (k := 11) d_M_stepOn_208 v_1379 rfl (by decide) (by decide) rfl (Or.inl rfl) rfl rfl ?_
                refine ab_aload_n (i := 0) d_M_stepOn_211 rfl rfl ?_
                refine ab_aload_n (i := 0) d_M_stepOn_212 rfl rfl ?_
                refine ab_getI (ci := 11) (k := 9) d_M_stepOn_213 v_1377 rfl (by decide) (by decide) rfl ?_
                refine ab_putI (ci := 11) (k := 14) d_M_stepOn_216 v_1382 rfl (by decide) (by decide) rfl (Or.inl rfl) rfl rfl ?_
                exact ab_vret d_M_stepOn_219 rfl h
            · have h := h.2 c14
              by_cases c16 : 57 < (I mx_tape (I mx 9).toNatClampNeg)
              · have h := h.1 c16
                refine ab_callS (me2 := mt_M_isDigit) (as := [.int (I mx_tape (I mx 9).toNatClampNeg)]) (st := []) (rv := (some (.int 0))) (M2 := ((ab_up I mx 13 (I mx 9)), L, ab_RR, n, nc, ns)) d_M_stepOn_112 ce_M_isDigit ⟨v_1578, Or.inl v_1577⟩ (Nat.le_of_ble_eq_true rfl) (cx_M_isDigit_1 (I mx_tape (I mx 9).toNatClampNeg) hT c14 c16) (Nat.le_refl _) (Nat.le_refl _) hc hs (fun j h9 => by cases h9) (fun _ _ => rfl) ?_
                show ab_E w (d + 1) mt_M_stepOn 115 [.ref mx, .int (I mx_tape (I mx 9).toNatClampNeg)] [.int 0] ((ab_up I mx 13 (I mx 9)), L, ab_RR, n, nc, ns) res
                refine ab_if_eq (tgt := 186) d_M_stepOn_115 (by decide) (fun _ => ?_) (fun c9 => absurd (show (0 : Int32) = 0 from by decide) c9)
                refine ab_aload_n (i := 0) d_M_stepOn_186 rfl rfl ?_
                refine ab_dupr d_M_stepOn_187 ?_
                refine ab_getI (ci := 11) (k := 9) d_M_stepOn_188 v_1377 rfl (by decide) (by decide) rfl ?_
                refine ab_iconst (v := 1) d_M_stepOn_191 rfl ?_
                refine ab_iadd d_M_stepOn_192 ?_
                refine ab_putI (ci := 11) (k := 9) d_M_stepOn_193 v_1377 rfl (by decide) (by decide) rfl (Or.inl rfl) rfl rfl ?_
                refine ab_aload_n (i := 0) d_M_stepOn_196 rfl rfl ?_
                refine ab_iload_n (i := 1) d_M_stepOn_197 rfl rfl ?_
                refine ab_bipush (v := 59) d_M_stepOn_198 rfl ?_
                refine ab_icmp_ne (tgt := 207) d_M_stepOn_200 (by decide) (fun c17 => ?_) (fun c17 => ?_)
                · have h := h.1 c17
                  refine ab_iconst (v := 4) d_M_stepOn_207 rfl ?_
                  refine ab_putI (ci := 11) (k := 11) d_M_stepOn_208 v_1379 rfl (by decide) (by decide) rfl (Or.inl rfl) rfl rfl ?_
                  refine ab_aload_n (i := 0) d_M_stepOn_211 rfl rfl ?_
                  refine ab_aload_n (i := 0) d_M_stepOn_212 rfl rfl ?_
                  refine ab_getI (ci := 11) (k := 9) d_M_stepOn_213 v_1377 rfl (by decide) (by decide) rfl ?_
                  refine ab_putI (ci := 11) (k := 14) d_M_stepOn_216 v_1382 rfl (by decide) (by decide) rfl (Or.inl rfl) rfl rfl ?_
                  exact ab_vret d_M_stepOn_219 rfl h
                · have h := h.2 c17
                  refine ab_iconst (v := 3) d_M_stepOn_203 rfl ?_
                  refine ab_goto (tgt := 208) d_M_stepOn_204 (by decide) ?_
                  refine ab_putI (ci := 11) (k := 11) d_M_stepOn_208 v_1379 rfl (by decide) (by decide) rfl (Or.inl rfl) rfl rfl ?_
                  refine ab_aload_n (i := 0) d_M_stepOn_211 rfl rfl ?_
                  refine ab_aload_n (i := 0) d_M_stepOn_212 rfl rfl ?_
                  refine ab_getI (ci := 11) (k := 9) d_M_stepOn_213 v_1377 rfl (by decide) (by decide) rfl ?_
                  refine ab_putI (ci := 11) (k := 14) d_M_stepOn_216 v_1382 rfl (by decide) (by decide) rfl (Or.inl rfl) rfl rfl ?_
                  exact ab_vret d_M_stepOn_219 rfl h
              · have h := h.2 c16
                refine ab_callS (me2 := mt_M_isDigit) (as := [.int (I mx_tape (I mx 9).toNatClampNeg)]) (st := []) (rv := (some (.int 1))) (M2 := ((ab_up I mx 13 (I mx 9)), L, ab_RR, n, nc, ns)) d_M_stepOn_112 ce_M_isDigit ⟨v_1578, Or.inl v_1577⟩ (Nat.le_of_ble_eq_true rfl) (cx_M_isDigit_2 (I mx_tape (I mx 9).toNatClampNeg) hT c14 c16) (Nat.le_refl _) (Nat.le_refl _) hc hs (fun j h9 => by cases h9) (fun _ _ => rfl) ?_
                show ab_E w (d + 1) mt_M_stepOn 115 [.ref mx, .int (I mx_tape (I mx 9).toNatClampNeg)] [.int 1] ((ab_up I mx 13 (I mx 9)), L, ab_RR, n, nc, ns) res
                refine ab_if_eq (tgt := 186) d_M_stepOn_115 (by decide) (fun c9 => absurd c9 (show ¬ (1 : Int32) = 0 from by decide)) (fun _ => ?_)
                refine ab_aload_n (i := 0) d_M_stepOn_118 rfl rfl ?_
                refine ab_iconst (v := 0) d_M_stepOn_119 rfl ?_
                refine ab_putI (ci := 11) (k := 12) d_M_stepOn_120 v_1380 rfl (by decide) (by decide) rfl (Or.inl rfl) rfl rfl ?_
                exact h
          · have h := h.2 c12
            by_cases c18 : 122 < (I mx_tape (I mx 9).toNatClampNeg)
            · have h := h.1 c18
              refine ab_callS (me2 := mt_M_isLetter) (as := [.int (I mx_tape (I mx 9).toNatClampNeg)]) (st := []) (rv := (some (.int 0))) (M2 := ((ab_up I mx 13 (I mx 9)), L, ab_RR, n, nc, ns)) d_M_stepOn_70 ce_M_isLetter ⟨v_1575, Or.inl v_1574⟩ (Nat.le_of_ble_eq_true rfl) (cx_M_isLetter_1 (I mx_tape (I mx 9).toNatClampNeg) hT c12 c18) (Nat.le_refl _) (Nat.le_refl _) hc hs (fun j h9 => by cases h9) (fun _ _ => rfl) ?_
              show ab_E w (d + 1) mt_M_stepOn 73 [.ref mx, .int (I mx_tape (I mx 9).toNatClampNeg)] [.int 0] ((ab_up I mx 13 (I mx 9)), L, ab_RR, n, nc, ns) res
              refine ab_if_eq (tgt := 111) d_M_stepOn_73 (by decide) (fun _ => ?_) (fun c9 => absurd (show (0 : Int32) = 0 from by decide) c9)
              refine ab_iload_n (i := 1) d_M_stepOn_111 rfl rfl ?_
              by_cases c20 : (I mx_tape (I mx 9).toNatClampNeg) < 48
              · have h := h.1 c20
                refine ab_callS (me2 := mt_M_isDigit) (as := [.int (I mx_tape (I mx 9).toNatClampNeg)]) (st := []) (rv := (some (.int 0))) (M2 := ((ab_up I mx 13 (I mx 9)), L, ab_RR, n, nc, ns)) d_M_stepOn_112 ce_M_isDigit ⟨v_1578, Or.inl v_1577⟩ (Nat.le_of_ble_eq_true rfl) (cx_M_isDigit_0 (I mx_tape (I mx 9).toNatClampNeg) hT c20) (Nat.le_refl _) (Nat.le_refl _) hc hs (fun j h9 => by cases h9) (fun _ _ => rfl) ?_
                show ab_E w (d + 1) mt_M_stepOn 115 [.ref mx, .int (I mx_tape (I mx 9).toNatClampNeg)] [.int 0] ((ab_up I mx 13 (I mx 9)), L, ab_RR, n, nc, ns) res
                refine ab_if_eq (tgt := 186) d_M_stepOn_115 (by decide) (fun _ => ?_) (fun c9 => absurd (show (0 : Int32) = 0 from by decide) c9)
                refine ab_aload_n (i := 0) d_M_stepOn_186 rfl rfl ?_
                refine ab_dupr d_M_stepOn_187 ?_
                refine ab_getI (ci := 11) (k := 9) d_M_stepOn_188 v_1377 rfl (by decide) (by decide) rfl ?_
                refine ab_iconst (v := 1) d_M_stepOn_191 rfl ?_
                refine ab_iadd d_M_stepOn_192 ?_
                refine ab_putI (ci := 11) (k := 9) d_M_stepOn_193 v_1377 rfl (by decide) (by decide) rfl (Or.inl rfl) rfl rfl ?_
                refine ab_aload_n (i := 0) d_M_stepOn_196 rfl rfl ?_
                refine ab_iload_n (i := 1) d_M_stepOn_197 rfl rfl ?_
                refine ab_bipush (v := 59) d_M_stepOn_198 rfl ?_
                refine ab_icmp_ne (tgt := 207) d_M_stepOn_200 (by decide) (fun c21 => ?_) (fun c21 => ?_)
                · have h := h.1 c21
                  refine ab_iconst (v := 4) d_M_stepOn_207 rfl ?_
                  refine ab_putI (ci := 11) (k := 11) d_M_stepOn_208 v_1379 rfl (by decide) (by decide) rfl (Or.inl rfl) rfl rfl ?_
                  refine ab_aload_n (i := 0) d_M_stepOn_211 rfl rfl ?_
                  refine ab_aload_n (i := 0) d_M_stepOn_212 rfl rfl ?_
                  refine ab_getI (ci := 11) (k := 9) d_M_stepOn_213 v_1377 rfl (by decide) (by decide) rfl ?_
                  refine ab_putI (ci := 11) (k := 14) d_M_stepOn_216 v_1382 rfl (by decide) (by decide) rfl (Or.inl rfl) rfl rfl ?_
                  exact ab_vret d_M_stepOn_219 rfl h
                · have h := h.2 c21
                  refine ab_iconst (v := 3) d_M_stepOn_203 rfl ?_
                  refine ab_goto (tgt := 208) d_M_stepOn_204 (by decide) ?_
                  refine ab_putI (ci := 11) (k := 11) d_M_stepOn_208 v_1379 rfl (by decide) (by decide) rfl (Or.inl rfl) rfl rfl ?_
                  refine ab_aload_n (i := 0) d_M_stepOn_211 rfl rfl ?_
                  refine ab_aload_n (i := 0) d_M_stepOn_212 rfl rfl ?_
                  refine ab_getI (ci := 11) (k := 9) d_M_stepOn_213 v_1377 rfl (by decide) (by decide) rfl ?_
                  refine ab_putI (ci := 11) (k := 14) d_M_stepOn_216 v_1382 rfl (by decide) (by decide) rfl (Or.inl rfl) rfl rfl ?_
                  exact ab_vret d_M_stepOn_219 rfl h
              · have h := h.2 c20
                by_cases c22 : 57 < (I mx_tape (I mx 9).toNatClampNeg)
                · have h := h.1 c22
                  refine ab_callS (me2 := mt_M_isDigit) (as := [.int (I mx_tape (I mx 9).toNatClampNeg)]) (st := []) (rv := (some (.int 0))) (M2 := ((ab_up I mx 13 (I mx 9)), L, ab_RR, n, nc, ns)) d_M_stepOn_112 ce_M_isDigit ⟨v_1578, Or.inl v_1577⟩ (Nat.le_of_ble_eq_true rfl) (cx_M_isDigit_1 (I mx_tape (I mx 9).toNatClampNeg) hT c20 c22) (Nat.le_refl _) (Nat.le_refl _) hc hs (fun j h9 => by cases h9) (fun _ _ => rfl) ?_
                  show ab_E w (d + 1) mt_M_stepOn 115 [.ref mx, .int (I mx_tape (I mx 9).toNatClampNeg)] [.int 0] ((ab_up I mx 13 (I mx 9)), L, ab_RR, n, nc, ns) res
                  refine ab_if_eq (tgt := 186) d_M_stepOn_115 (by decide) (fun _ => ?_) (fun c9 => absurd (show (0 : Int32) = 0 from by decide) c9)
                  refine ab_aload_n (i := 0) d_M_stepOn_186 rfl rfl ?_
                  refine ab_dupr d_M_stepOn_187 ?_
                  refine ab_getI (ci := 11) (k := 9) d_M_stepOn_188 v_1377 rfl (by decide) (by decide) rfl ?_
                  refine ab_iconst (v := 1) d_M_stepOn_191 rfl ?_
                  refine ab_iadd d_M_stepOn_192 ?_
                  refine ab_putI (ci := 11) (k := 9) d_M_stepOn_193 v_1377 rfl (by decide) (by decide) rfl (Or.inl rfl) rfl rfl ?_
                  refine ab_aload_n (i := 0) d_M_stepOn_196 rfl rfl ?_
                  refine ab_iload_n (i := 1) d_M_stepOn_197 rfl rfl ?_
                  refine ab_bipush (v := 59) d_M_stepOn_198 rfl ?_
                  refine ab_icmp_ne (tgt := 207) d_M_stepOn_200 (by decide) (fun c23 => ?_) (fun c23 => ?_)
                  · have h := h.1 c23
                    refine ab_iconst (v := 4) d_M_stepOn_207 rfl ?_
                    refine ab_putI (ci := 11) (k := 11) d_M_stepOn_208 v_1379 rfl (by decide) (by decide) rfl (Or.inl rfl) rfl rfl ?_
                    refine ab_aload_n (i := 0) d_M_stepOn_211 rfl rfl ?_
                    refine ab_aload_n (i := 0) d_M_stepOn_212 rfl rfl ?_
                    refine ab_getI (ci := 11) (k := 9) d_M_stepOn_213 v_1377 rfl (by decide) (by decide) rfl ?_
                    refine ab_putI (ci := 11) (k := 14) d_M_stepOn_216 v_1382 rfl (by decide) (by decide) rfl (Or.inl rfl) rfl rfl ?_
                    exact ab_vret d_M_stepOn_219 rfl h
                  · have h := h.2 c23
                    refine ab_iconst (v := 3) d_M_stepOn_203 rfl ?_
                    refine ab_goto (tgt := 208) d_M_stepOn_204 (by decide) ?_
                    refine ab_putI (ci := 11) (k := 11) d_M_stepOn_208 v_1379 rfl (by decide) (by decide) rfl (Or.inl rfl) rfl rfl ?_
                    refine ab_aload_n (i := 0) d_M_stepOn_211 rfl rfl ?_
                    refine ab_aload_n (i := 0) d_M_stepOn_212 rfl rfl ?_
                    refine ab_getI (ci := 11) (k := 9) d_M_stepOn_213 v_1377 rfl (by decide) (by decide) rfl ?_
                    refine ab_putI (ci := 11) (k := 14) d_M_stepOn_216 v_1382 rfl (by decide) (by decide) rfl (Or.inl rfl) rfl rfl ?_
                    exact ab_vret d_M_stepOn_219 rfl h
                · have h := h.2 c22
                  refine ab_callS (me2 := mt_M_isDigit) (as := [.int (I mx_tape (I mx 9).toNatClampNeg)]) (st := []) (rv := (some (.int 1))) (M2 := ((ab_up I mx 13 (I mx 9)), L, ab_RR, n, nc, ns)) d_M_stepOn_112 ce_M_isDigit ⟨v_1578, Or.inl v_1577⟩ (Nat.le_of_ble_eq_true rfl) (cx_M_isDigit_2 (I mx_tape (I mx 9).toNatClampNeg) hT c20 c22) (Nat.le_refl _) (Nat.le_refl _) hc hs (fun j h9 => by cases h9) (fun _ _ => rfl) ?_
                  show ab_E w (d + 1) mt_M_stepOn 115 [.ref mx, .int (I mx_tape (I mx 9).toNatClampNeg)] [.int 1] ((ab_up I mx 13 (I mx 9)), L, ab_RR, n, nc, ns) res
                  refine ab_if_eq (tgt := 186) d_M_stepOn_115 (by decide) (fun c9 => absurd c9 (show ¬ (1 : Int32) = 0 from by decide)) (fun _ => ?_)
                  refine ab_aload_n (i := 0) d_M_stepOn_118 rfl rfl ?_
                  refine ab_iconst (v := 0) d_M_stepOn_119 rfl ?_
                  refine ab_putI (ci := 11) (k := 12) d_M_stepOn_120 v_1380 rfl (by decide) (by decide) rfl (Or.inl rfl) rfl rfl ?_
                  exact h
            · have h := h.2 c18
              refine ab_callS (me2 := mt_M_isLetter) (as := [.int (I mx_tape (I mx 9).toNatClampNeg)]) (st := []) (rv := (some (.int 1))) (M2 := ((ab_up I mx 13 (I mx 9)), L, ab_RR, n, nc, ns)) d_M_stepOn_70 ce_M_isLetter ⟨v_1575, Or.inl v_1574⟩ (Nat.le_of_ble_eq_true rfl) (cx_M_isLetter_2 (I mx_tape (I mx 9).toNatClampNeg) hT c12 c18) (Nat.le_refl _) (Nat.le_refl _) hc hs (fun j h9 => by cases h9) (fun _ _ => rfl) ?_
              show ab_E w (d + 1) mt_M_stepOn 73 [.ref mx, .int (I mx_tape (I mx 9).toNatClampNeg)] [.int 1] ((ab_up I mx 13 (I mx 9)), L, ab_RR, n, nc, ns) res
              refine ab_if_eq (tgt := 111) d_M_stepOn_73 (by decide) (fun c9 => absurd c9 (show ¬ (1 : Int32) = 0 from by decide)) (fun _ => ?_)
              exact h
        · have h := h.2 c10
          refine ab_aload_n (i := 0) d_M_stepOn_61 rfl rfl ?_
          refine ab_iconst (v := 0) d_M_stepOn_62 rfl ?_
          refine ab_putI (ci := 11) (k := 11) d_M_stepOn_63 v_1379 rfl (by decide) (by decide) rfl (Or.inl rfl) rfl rfl ?_
          refine ab_goto (tgt := 211) d_M_stepOn_66 (by decide) ?_
          refine ab_aload_n (i := 0) d_M_stepOn_211 rfl rfl ?_
          refine ab_aload_n (i := 0) d_M_stepOn_212 rfl rfl ?_
          refine ab_getI (ci := 11) (k := 9) d_M_stepOn_213 v_1377 rfl (by decide) (by decide) rfl ?_
          refine ab_putI (ci := 11) (k := 14) d_M_stepOn_216 v_1382 rfl (by decide) (by decide) rfl (Or.inl rfl) rfl rfl ?_
          exact ab_vret d_M_stepOn_219 rfl h
      · have h := h.2 c8
        refine ab_aload_n (i := 0) d_M_stepOn_26 rfl rfl ?_
        refine ab_dupr d_M_stepOn_27 ?_
        refine ab_getI (ci := 11) (k := 9) d_M_stepOn_28 v_1377 rfl (by decide) (by decide) rfl ?_
        refine ab_iconst (v := 1) d_M_stepOn_31 rfl ?_
        refine ab_iadd d_M_stepOn_32 ?_
        refine ab_putI (ci := 11) (k := 9) d_M_stepOn_33 v_1377 rfl (by decide) (by decide) rfl (Or.inl rfl) rfl rfl ?_
        refine ab_goto (tgt := 0) d_M_stepOn_36 (by decide) ?_
        exact h
theorem r_M_stepOn_76 {w : ab_Wd} {d n nc ns : Nat} {I : Nat → Nat → Int32} {L : Nat → Nat → Int64} {res : ab_Re} (hT : w.1.stackTraces = false) (v1 : Int32) (hc : nc ≤ res.2.2.2.2.2.1) (hs : ns ≤ res.2.2.2.2.2.2)
    (h : (((I mx 10) ≤ (I mx 9) → (res = (.inl none, ((ab_up (ab_up I mx 11 1) mx 14 (I mx 9)), L, ab_RR, n, nc, ns)))) ∧ (¬ (I mx 10) ≤ (I mx 9) → ((vp_in (I mx 9) 700) ∧ (((I mx_tape (I mx 9).toNatClampNeg) < 97 → (res = (.inl none, ((ab_up (ab_up I mx 11 1) mx 14 (I mx 9)), L, ab_RR, n, nc, ns)))) ∧ (¬ (I mx_tape (I mx 9).toNatClampNeg) < 97 → ((122 < (I mx_tape (I mx 9).toNatClampNeg) → (res = (.inl none, ((ab_up (ab_up I mx 11 1) mx 14 (I mx 9)), L, ab_RR, n, nc, ns)))) ∧ (¬ 122 < (I mx_tape (I mx 9).toNatClampNeg) → (ab_E w (d + 1) mt_M_stepOn 76 [.ref mx, .int v1] [] ((ab_up I mx 9 ((I mx 9) + 1)), L, ab_RR, n, nc, ns) res))))))))) : ab_E w (d + 1) mt_M_stepOn 76 [.ref mx, .int v1] [] (I, L, ab_RR, n, nc, ns) res := by
  refine ab_aload_n (i := 0) d_M_stepOn_76 rfl rfl ?_
  refine ab_aload_n (i := 0) d_M_stepOn_77 rfl rfl ?_
  refine ab_getI (ci := 11) (k := 9) d_M_stepOn_78 v_1377 rfl (by decide) (by decide) rfl ?_
  by_cases c2 : (I mx 10) ≤ (I mx 9)
  · have h := h.1 c2
    refine ab_callV (me2 := mt_M_byteAt) (b := mx) (as := [.int (I mx 9)]) (st := []) (rv := (some (.int (-1)))) (M2 := (I, L, ab_RR, n, nc, ns)) d_M_stepOn_81 ce_M_byteAt v_1570 v_1572 v_68 (by decide) rfl (Nat.le_of_ble_eq_true rfl) (cx_M_byteAt_0 (I mx 9) hT c2) (Nat.le_refl _) (Nat.le_refl _) hc hs (fun j h9 => by cases h9) (fun _ _ => rfl) ?_
    show ab_E w (d + 1) mt_M_stepOn 84 [.ref mx, .int v1] [.int (-1)] (I, L, ab_RR, n, nc, ns) res
    refine ab_callS (me2 := mt_M_isLetter) (as := [.int (-1)]) (st := []) (rv := (some (.int 0))) (M2 := (I, L, ab_RR, n, nc, ns)) d_M_stepOn_84 ce_M_isLetter ⟨v_1575, Or.inl v_1574⟩ (Nat.le_of_ble_eq_true rfl) (cx_M_isLetter_0 (-1) hT (show ((-1) : Int32) < 97 from by decide)) (Nat.le_refl _) (Nat.le_refl _) hc hs (fun j h9 => by cases h9) (fun _ _ => rfl) ?_
    show ab_E w (d + 1) mt_M_stepOn 87 [.ref mx, .int v1] [.int 0] (I, L, ab_RR, n, nc, ns) res
    refine ab_if_eq (tgt := 103) d_M_stepOn_87 (by decide) (fun _ => ?_) (fun c9 => absurd (show (0 : Int32) = 0 from by decide) c9)
    refine ab_aload_n (i := 0) d_M_stepOn_103 rfl rfl ?_
    refine ab_iconst (v := 1) d_M_stepOn_104 rfl ?_
    refine ab_putI (ci := 11) (k := 11) d_M_stepOn_105 v_1379 rfl (by decide) (by decide) rfl (Or.inl rfl) rfl rfl ?_
    refine ab_goto (tgt := 211) d_M_stepOn_108 (by decide) ?_
    refine ab_aload_n (i := 0) d_M_stepOn_211 rfl rfl ?_
    refine ab_aload_n (i := 0) d_M_stepOn_212 rfl rfl ?_
    refine ab_getI (ci := 11) (k := 9) d_M_stepOn_213 v_1377 rfl (by decide) (by decide) rfl ?_
    refine ab_putI (ci := 11) (k := 14) d_M_stepOn_216 v_1382 rfl (by decide) (by decide) rfl (Or.inl rfl) rfl rfl ?_
    exact ab_vret d_M_stepOn_219 rfl h
  · have h := h.2 c2
    have g4 := h.1; have h := h.2
    refine ab_callV (me2 := mt_M_byteAt) (b := mx) (as := [.int (I mx 9)]) (st := []) (rv := (some (.int (I mx_tape (I mx 9).toNatClampNeg)))) (M2 := (I, L, ab_RR, n, nc, ns)) d_M_stepOn_81 ce_M_byteAt v_1570 v_1572 v_68 (by decide) rfl (Nat.le_of_ble_eq_true rfl) (cx_M_byteAt_1 (I mx 9) hT c2 g4) (Nat.le_refl _) (Nat.le_refl _) hc hs (fun j h9 => by cases h9) (fun _ _ => rfl) ?_
    show ab_E w (d + 1) mt_M_stepOn 84 [.ref mx, .int v1] [.int (I mx_tape (I mx 9).toNatClampNeg)] (I, L, ab_RR, n, nc, ns) res
    by_cases c6 : (I mx_tape (I mx 9).toNatClampNeg) < 97
    · have h := h.1 c6
      refine ab_callS (me2 := mt_M_isLetter) (as := [.int (I mx_tape (I mx 9).toNatClampNeg)]) (st := []) (rv := (some (.int 0))) (M2 := (I, L, ab_RR, n, nc, ns)) d_M_stepOn_84 ce_M_isLetter ⟨v_1575, Or.inl v_1574⟩ (Nat.le_of_ble_eq_true rfl) (cx_M_isLetter_0 (I mx_tape (I mx 9).toNatClampNeg) hT c6) (Nat.le_refl _) (Nat.le_refl _) hc hs (fun j h9 => by cases h9) (fun _ _ => rfl) ?_
      show ab_E w (d + 1) mt_M_stepOn 87 [.ref mx, .int v1] [.int 0] (I, L, ab_RR, n, nc, ns) res
      refine ab_if_eq (tgt := 103) d_M_stepOn_87 (by decide) (fun _ => ?_) (fun c9 => absurd (show (0 : Int32) = 0 from by decide) c9)
      refine ab_aload_n (i := 0) d_M_stepOn_103 rfl rfl ?_
      refine ab_iconst (v := 1) d_M_stepOn_104 rfl ?_
      refine ab_putI (ci := 11) (k := 11) d_M_stepOn_105 v_1379 rfl (by decide) (by decide) rfl (Or.inl rfl) rfl rfl ?_
      refine ab_goto (tgt := 211) d_M_stepOn_108 (by decide) ?_
      refine ab_aload_n (i := 0) d_M_stepOn_211 rfl rfl ?_
      refine ab_aload_n (i := 0) d_M_stepOn_212 rfl rfl ?_
      refine ab_getI (ci := 11) (k := 9) d_M_stepOn_213 v_1377 rfl (by decide) (by decide) rfl ?_
      refine ab_putI (ci := 11) (k := 14) d_M_stepOn_216 v_1382 rfl (by decide) (by decide) rfl (Or.inl rfl) rfl rfl ?_
      exact ab_vret d_M_stepOn_219 rfl h
    · have h := h.2 c6
      by_cases c7 : 122 < (I mx_tape (I mx 9).toNatClampNeg)
      · have h := h.1 c7
        refine ab_callS (me2 := mt_M_isLetter) (as := [.int (I mx_tape (I mx 9).toNatClampNeg)]) (st := []) (rv := (some (.int 0))) (M2 := (I, L, ab_RR, n, nc, ns)) d_M_stepOn_84 ce_M_isLetter ⟨v_1575, Or.inl v_1574⟩ (Nat.le_of_ble_eq_true rfl) (cx_M_isLetter_1 (I mx_tape (I mx 9).toNatClampNeg) hT c6 c7) (Nat.le_refl _) (Nat.le_refl _) hc hs (fun j h9 => by cases h9) (fun _ _ => rfl) ?_
        show ab_E w (d + 1) mt_M_stepOn 87 [.ref mx, .int v1] [.int 0] (I, L, ab_RR, n, nc, ns) res
        refine ab_if_eq (tgt := 103) d_M_stepOn_87 (by decide) (fun _ => ?_) (fun c9 => absurd (show (0 : Int32) = 0 from by decide) c9)
        refine ab_aload_n (i := 0) d_M_stepOn_103 rfl rfl ?_
        refine ab_iconst (v := 1) d_M_stepOn_104 rfl ?_
        refine ab_putI (ci := 11) (k := 11) d_M_stepOn_105 v_1379 rfl (by decide) (by decide) rfl (Or.inl rfl) rfl rfl ?_
        refine ab_goto (tgt := 211) d_M_stepOn_108 (by decide) ?_
        refine ab_aload_n (i := 0) d_M_stepOn_211 rfl rfl ?_
        refine ab_aload_n (i := 0) d_M_stepOn_212 rfl rfl ?_
        refine ab_getI (ci := 11) (k := 9) d_M_stepOn_213 v_1377 rfl (by decide) (by decide) rfl ?_
        refine ab_putI (ci := 11) (k := 14) d_M_stepOn_216 v_1382 rfl (by decide) (by decide) rfl (Or.inl rfl) rfl rfl ?_
        exact ab_vret d_M_stepOn_219 rfl h
      · have h := h.2 c7
        refine ab_callS (me2 := mt_M_isLetter) (as := [.int (I mx_tape (I mx 9).toNatClampNeg)]) (st := []) (rv := (some (.int 1))) (M2 := (I, L, ab_RR, n, nc, ns)) d_M_stepOn_84 ce_M_isLetter ⟨v_1575, Or.inl v_1574⟩ (Nat.le_of_ble_eq_true rfl) (cx_M_isLetter_2 (I mx_tape (I mx 9).toNatClampNeg) hT c6 c7) (Nat.le_refl _) (Nat.le_refl _) hc hs (fun j h9 => by cases h9) (fun _ _ => rfl) ?_
        show ab_E w (d + 1) mt_M_stepOn 87 [.ref mx, .int v1] [.int 1] (I, L, ab_RR, n, nc, ns) res
        refine ab_if_eq (tgt := 103) d_M_stepOn_87 (by decide) (fun c9 => absurd c9 (show ¬ (1 : Int32) = 0 from by decide)) (fun _ => ?_)
        refine ab_aload_n (i := 0) d_M_stepOn_90 rfl rfl ?_
        refine ab_dupr d_M_stepOn_91 ?_
        refine ab_getI (ci := 11) (k := 9) d_M_stepOn_92 v_1377 rfl (by decide) (by decide) rfl ?_
        refine ab_iconst (v := 1) d_M_stepOn_95 rfl ?_
        refine ab_iadd d_M_stepOn_96 ?_
        refine ab_putI (ci := 11) (k := 9) d_M_stepOn_97 v_1377 rfl (by decide) (by decide) rfl (Or.inl rfl) rfl rfl ?_
        refine ab_goto (tgt := 76) d_M_stepOn_100 (by decide) ?_
        exact h
theorem r_M_stepOn_123 {w : ab_Wd} {d n nc ns : Nat} {I : Nat → Nat → Int32} {L : Nat → Nat → Int64} {res : ab_Re} (hT : w.1.stackTraces = false) (v1 : Int32) (hc : nc ≤ res.2.2.2.2.2.1) (hs : ns ≤ res.2.2.2.2.2.2)
    (h : (((I mx 10) ≤ (I mx 9) → (res = (.inl none, ((ab_up (ab_up I mx 11 2) mx 14 (I mx 9)), L, ab_RR, n, nc, ns)))) ∧ (¬ (I mx 10) ≤ (I mx 9) → ((vp_in (I mx 9) 700) ∧ (((I mx_tape (I mx 9).toNatClampNeg) < 48 → (res = (.inl none, ((ab_up (ab_up I mx 11 2) mx 14 (I mx 9)), L, ab_RR, n, nc, ns)))) ∧ (¬ (I mx_tape (I mx 9).toNatClampNeg) < 48 → ((57 < (I mx_tape (I mx 9).toNatClampNeg) → (res = (.inl none, ((ab_up (ab_up I mx 11 2) mx 14 (I mx 9)), L, ab_RR, n, nc, ns)))) ∧ (¬ 57 < (I mx_tape (I mx 9).toNatClampNeg) → (ab_E w (d + 1) mt_M_stepOn 123 [.ref mx, .int v1] [] ((ab_up (ab_up I mx 12 (ab_min32 100000 (((10 * (I mx 12)) + (I mx_tape (I mx 9).toNatClampNeg)) - 48))) mx 9 ((I mx 9) + 1)), L, ab_RR, n, nc, ns) res))))))))) : ab_E w (d + 1) mt_M_stepOn 123 [.ref mx, .int v1] [] (I, L, ab_RR, n, nc, ns) res := by
  refine ab_aload_n (i := 0) d_M_stepOn_123 rfl rfl ?_
  refine ab_aload_n (i := 0) d_M_stepOn_124 rfl rfl ?_
  refine ab_getI (ci := 11) (k := 9) d_M_stepOn_125 v_1377 rfl (by decide) (by decide) rfl ?_
  by_cases c2 : (I mx 10) ≤ (I mx 9)
  · have h := h.1 c2
    refine ab_callV (me2 := mt_M_byteAt) (b := mx) (as := [.int (I mx 9)]) (st := []) (rv := (some (.int (-1)))) (M2 := (I, L, ab_RR, n, nc, ns)) d_M_stepOn_128 ce_M_byteAt v_1570 v_1572 v_68 (by decide) rfl (Nat.le_of_ble_eq_true rfl) (cx_M_byteAt_0 (I mx 9) hT c2) (Nat.le_refl _) (Nat.le_refl _) hc hs (fun j h9 => by cases h9) (fun _ _ => rfl) ?_
    show ab_E w (d + 1) mt_M_stepOn 131 [.ref mx, .int v1] [.int (-1)] (I, L, ab_RR, n, nc, ns) res
    refine ab_callS (me2 := mt_M_isDigit) (as := [.int (-1)]) (st := []) (rv := (some (.int 0))) (M2 := (I, L, ab_RR, n, nc, ns)) d_M_stepOn_131 ce_M_isDigit ⟨v_1578, Or.inl v_1577⟩ (Nat.le_of_ble_eq_true rfl) (cx_M_isDigit_0 (-1) hT (show ((-1) : Int32) < 48 from by decide)) (Nat.le_refl _) (Nat.le_refl _) hc hs (fun j h9 => by cases h9) (fun _ _ => rfl) ?_
    show ab_E w (d + 1) mt_M_stepOn 134 [.ref mx, .int v1] [.int 0] (I, L, ab_RR, n, nc, ns) res
    refine ab_if_eq (tgt := 178) d_M_stepOn_134 (by decide) (fun _ => ?_) (fun c9 => absurd (show (0 : Int32) = 0 from by decide) c9)
    refine ab_aload_n (i := 0) d_M_stepOn_178 rfl rfl ?_
    refine ab_iconst (v := 2) d_M_stepOn_179 rfl ?_
    refine ab_putI (ci := 11) (k := 11) d_M_stepOn_180 v_1379 rfl (by decide) (by decide) rfl (Or.inl rfl) rfl rfl ?_
    refine ab_goto (tgt := 211) d_M_stepOn_183 (by decide) ?_
    refine ab_aload_n (i := 0) d_M_stepOn_211 rfl rfl ?_
    refine ab_aload_n (i := 0) d_M_stepOn_212 rfl rfl ?_
    refine ab_getI (ci := 11) (k := 9) d_M_stepOn_213 v_1377 rfl (by decide) (by decide) rfl ?_
    refine ab_putI (ci := 11) (k := 14) d_M_stepOn_216 v_1382 rfl (by decide) (by decide) rfl (Or.inl rfl) rfl rfl ?_
    exact ab_vret d_M_stepOn_219 rfl h
  · have h := h.2 c2
    have g4 := h.1; have h := h.2
    refine ab_callV (me2 := mt_M_byteAt) (b := mx) (as := [.int (I mx 9)]) (st := []) (rv := (some (.int (I mx_tape (I mx 9).toNatClampNeg)))) (M2 := (I, L, ab_RR, n, nc, ns)) d_M_stepOn_128 ce_M_byteAt v_1570 v_1572 v_68 (by decide) rfl (Nat.le_of_ble_eq_true rfl) (cx_M_byteAt_1 (I mx 9) hT c2 g4) (Nat.le_refl _) (Nat.le_refl _) hc hs (fun j h9 => by cases h9) (fun _ _ => rfl) ?_
    show ab_E w (d + 1) mt_M_stepOn 131 [.ref mx, .int v1] [.int (I mx_tape (I mx 9).toNatClampNeg)] (I, L, ab_RR, n, nc, ns) res
    by_cases c6 : (I mx_tape (I mx 9).toNatClampNeg) < 48
    · have h := h.1 c6
      refine ab_callS (me2 := mt_M_isDigit) (as := [.int (I mx_tape (I mx 9).toNatClampNeg)]) (st := []) (rv := (some (.int 0))) (M2 := (I, L, ab_RR, n, nc, ns)) d_M_stepOn_131 ce_M_isDigit ⟨v_1578, Or.inl v_1577⟩ (Nat.le_of_ble_eq_true rfl) (cx_M_isDigit_0 (I mx_tape (I mx 9).toNatClampNeg) hT c6) (Nat.le_refl _) (Nat.le_refl _) hc hs (fun j h9 => by cases h9) (fun _ _ => rfl) ?_
      show ab_E w (d + 1) mt_M_stepOn 134 [.ref mx, .int v1] [.int 0] (I, L, ab_RR, n, nc, ns) res
      refine ab_if_eq (tgt := 178) d_M_stepOn_134 (by decide) (fun _ => ?_) (fun c9 => absurd (show (0 : Int32) = 0 from by decide) c9)
      refine ab_aload_n (i := 0) d_M_stepOn_178 rfl rfl ?_
      refine ab_iconst (v := 2) d_M_stepOn_179 rfl ?_
      refine ab_putI (ci := 11) (k := 11) d_M_stepOn_180 v_1379 rfl (by decide) (by decide) rfl (Or.inl rfl) rfl rfl ?_
      refine ab_goto (tgt := 211) d_M_stepOn_183 (by decide) ?_
      refine ab_aload_n (i := 0) d_M_stepOn_211 rfl rfl ?_
      refine ab_aload_n (i := 0) d_M_stepOn_212 rfl rfl ?_
      refine ab_getI (ci := 11) (k := 9) d_M_stepOn_213 v_1377 rfl (by decide) (by decide) rfl ?_
      refine ab_putI (ci := 11) (k := 14) d_M_stepOn_216 v_1382 rfl (by decide) (by decide) rfl (Or.inl rfl) rfl rfl ?_
      exact ab_vret d_M_stepOn_219 rfl h
    · have h := h.2 c6
      by_cases c7 : 57 < (I mx_tape (I mx 9).toNatClampNeg)
      · have h := h.1 c7
        refine ab_callS (me2 := mt_M_isDigit) (as := [.int (I mx_tape (I mx 9).toNatClampNeg)]) (st := []) (rv := (some (.int 0))) (M2 := (I, L, ab_RR, n, nc, ns)) d_M_stepOn_131 ce_M_isDigit ⟨v_1578, Or.inl v_1577⟩ (Nat.le_of_ble_eq_true rfl) (cx_M_isDigit_1 (I mx_tape (I mx 9).toNatClampNeg) hT c6 c7) (Nat.le_refl _) (Nat.le_refl _) hc hs (fun j h9 => by cases h9) (fun _ _ => rfl) ?_
        show ab_E w (d + 1) mt_M_stepOn 134 [.ref mx, .int v1] [.int 0] (I, L, ab_RR, n, nc, ns) res
        refine ab_if_eq (tgt := 178) d_M_stepOn_134 (by decide) (fun _ => ?_) (fun c9 => absurd (show (0 : Int32) = 0 from by decide) c9)
        refine ab_aload_n (i := 0) d_M_stepOn_178 rfl rfl ?_
        refine ab_iconst (v := 2) d_M_stepOn_179 rfl ?_
        refine ab_putI (ci := 11) (k := 11) d_M_stepOn_180 v_1379 rfl (by decide) (by decide) rfl (Or.inl rfl) rfl rfl ?_
        refine ab_goto (tgt := 211) d_M_stepOn_183 (by decide) ?_
        refine ab_aload_n (i := 0) d_M_stepOn_211 rfl rfl ?_
        refine ab_aload_n (i := 0) d_M_stepOn_212 rfl rfl ?_
        refine ab_getI (ci := 11) (k := 9) d_M_stepOn_213 v_1377 rfl (by decide) (by decide) rfl ?_
        refine ab_putI (ci := 11) (k := 14) d_M_stepOn_216 v_1382 rfl (by decide) (by decide) rfl (Or.inl rfl) rfl rfl ?_
        exact ab_vret d_M_stepOn_219 rfl h
      · have h := h.2 c7
        refine ab_callS (me2 := mt_M_isDigit) (as := [.int (I mx_tape (I mx 9).toNatClampNeg)]) (st := []) (rv := (some (.int 1))) (M2 := (I, L, ab_RR, n, nc, ns)) d_M_stepOn_131 ce_M_isDigit ⟨v_1578, Or.inl v_1577⟩ (Nat.le_of_ble_eq_true rfl) (cx_M_isDigit_2 (I mx_tape (I mx 9).toNatClampNeg) hT c6 c7) (Nat.le_refl _) (Nat.le_refl _) hc hs (fun j h9 => by cases h9) (fun _ _ => rfl) ?_
        show ab_E w (d + 1) mt_M_stepOn 134 [.ref mx, .int v1] [.int 1] (I, L, ab_RR, n, nc, ns) res
        refine ab_if_eq (tgt := 178) d_M_stepOn_134 (by decide) (fun c9 => absurd c9 (show ¬ (1 : Int32) = 0 from by decide)) (fun _ => ?_)
        refine ab_aload_n (i := 0) d_M_stepOn_137 rfl rfl ?_
        refine ab_ldc (v := 100000) d_M_stepOn_138 v_1580 ?_
        refine ab_bipush (v := 10) d_M_stepOn_140 rfl ?_
        refine ab_aload_n (i := 0) d_M_stepOn_142 rfl rfl ?_
        refine ab_getI (ci := 11) (k := 12) d_M_stepOn_143 v_1380 rfl (by decide) (by decide) rfl ?_
        refine ab_imul d_M_stepOn_146 ?_
        refine ab_aload_n (i := 0) d_M_stepOn_147 rfl rfl ?_
        refine ab_aload_n (i := 0) d_M_stepOn_148 rfl rfl ?_
        refine ab_getI (ci := 11) (k := 9) d_M_stepOn_149 v_1377 rfl (by decide) (by decide) rfl ?_
        refine ab_callV (me2 := mt_M_byteAt) (b := mx) (as := [.int (I mx 9)]) (st := [.int (10 * (I mx 12)), .int 100000, .ref mx]) (rv := (some (.int (I mx_tape (I mx 9).toNatClampNeg)))) (M2 := (I, L, ab_RR, n, nc, ns)) d_M_stepOn_152 ce_M_byteAt v_1570 v_1572 v_68 (by decide) rfl (Nat.le_of_ble_eq_true rfl) (cx_M_byteAt_1 (I mx 9) hT c2 g4) (Nat.le_refl _) (Nat.le_refl _) hc hs (fun j h9 => by cases h9) (fun _ _ => rfl) ?_
        show ab_E w (d + 1) mt_M_stepOn 155 [.ref mx, .int v1] [.int (I mx_tape (I mx 9).toNatClampNeg), .int (10 * (I mx 12)), .int 100000, .ref mx] (I, L, ab_RR, n, nc, ns) res
        refine ab_iadd d_M_stepOn_155 ?_
        refine ab_bipush (v := 48) d_M_stepOn_156 rfl ?_
        refine ab_isub d_M_stepOn_158 ?_
        refine ab_min d_M_stepOn_159 v_1581 v_448 v_150 v_449 (Nat.succ_le_succ (Nat.zero_le _)) (Nat.le_of_ble_eq_true rfl) hc hs ?_
        refine ab_putI (ci := 11) (k := 12) d_M_stepOn_162 v_1380 rfl (by decide) (by decide) rfl (Or.inl rfl) rfl rfl ?_
        refine ab_aload_n (i := 0) d_M_stepOn_165 rfl rfl ?_
        refine ab_dupr d_M_stepOn_166 ?_
        refine ab_getI (ci := 11) (k := 9) d_M_stepOn_167 v_1377 rfl (by decide) (by decide) rfl ?_
        refine ab_iconst (v := 1) d_M_stepOn_170 rfl ?_
        refine ab_iadd d_M_stepOn_171 ?_
        refine ab_putI (ci := 11) (k := 9) d_M_stepOn_172 v_1377 rfl (by decide) (by decide) rfl (Or.inl rfl) rfl rfl ?_
        refine ab_goto (tgt := 123) d_M_stepOn_175 (by decide) ?_
        exact h
theorem cx_M_wrong_0 {w : ab_Wd} {d n nc ns : Nat} {I : Nat → Nat → Int32} {L : Nat → Nat → Int64} (v1 : Int32) (hT : w.1.stackTraces = false) (e1 : (I mx 15) = 0) : ab_C w d mt_M_wrong [.ref mx, .int v1] (I, L, ab_RR, n, nc, ns) (.inl none, ((ab_up (ab_up I mx 15 v1) mx 16 (I mx 13)), L, ab_RR, n, nc, ns)) := by
  refine ab_C_of (by decide) rfl (Nat.le_of_ble_eq_true rfl) hT ?_
  have hc := Nat.le_refl nc
  have hs := Nat.le_refl ns
  refine ab_aload_n (i := 0) d_M_wrong_0 rfl rfl ?_
  refine ab_getI (ci := 11) (k := 15) d_M_wrong_1 v_1383 rfl (by decide) (by decide) rfl ?_
  refine ab_if_eq (tgt := 8) d_M_wrong_4 (by decide) (fun _ => ?_) (fun c9 => absurd e1 c9)
  refine ab_aload_n (i := 0) d_M_wrong_8 rfl rfl ?_
  refine ab_iload_n (i := 1) d_M_wrong_9 rfl rfl ?_
  refine ab_putI (ci := 11) (k := 15) d_M_wrong_10 v_1383 rfl (by decide) (by decide) rfl (Or.inl rfl) rfl rfl ?_
  refine ab_aload_n (i := 0) d_M_wrong_13 rfl rfl ?_
  refine ab_aload_n (i := 0) d_M_wrong_14 rfl rfl ?_
  refine ab_getI (ci := 11) (k := 13) d_M_wrong_15 v_1381 rfl (by decide) (by decide) rfl ?_
  refine ab_putI (ci := 11) (k := 16) d_M_wrong_18 v_1384 rfl (by decide) (by decide) rfl (Or.inl rfl) rfl rfl ?_
  exact ab_vret d_M_wrong_21 rfl rfl
theorem cx_M_wrong_1 {w : ab_Wd} {d n nc ns : Nat} {I : Nat → Nat → Int32} {L : Nat → Nat → Int64} (v1 : Int32) (hT : w.1.stackTraces = false) (e1 : ¬ (I mx 15) = 0) : ab_C w d mt_M_wrong [.ref mx, .int v1] (I, L, ab_RR, n, nc, ns) (.inl none, (I, L, ab_RR, n, nc, ns)) := by
  refine ab_C_of (by decide) rfl (Nat.le_of_ble_eq_true rfl) hT ?_
  have hc := Nat.le_refl nc
  have hs := Nat.le_refl ns
  refine ab_aload_n (i := 0) d_M_wrong_0 rfl rfl ?_
  refine ab_getI (ci := 11) (k := 15) d_M_wrong_1 v_1383 rfl (by decide) (by decide) rfl ?_
  refine ab_if_eq (tgt := 8) d_M_wrong_4 (by decide) (fun c9 => absurd c9 e1) (fun _ => ?_)
  exact ab_vret d_M_wrong_7 rfl rfl
theorem r_M_which_0 {w : ab_Wd} {d n nc ns : Nat} {I : Nat → Nat → Int32} {L : Nat → Nat → Int64} {res : ab_Re} (hT : w.1.stackTraces = false)  (hc : nc ≤ res.2.2.2.2.2.1) (hs : ns ≤ res.2.2.2.2.2.2)
    (h : ab_E w (d + 1) mt_M_which 2 [.ref mx, .int 0] [] (I, L, ab_RR, n, nc, ns) res) : ab_E w (d + 1) mt_M_which 0 [.ref mx, .null] [] (I, L, ab_RR, n, nc, ns) res := by
  refine ab_iconst (v := 0) d_M_which_0 rfl ?_
  refine ab_istore_n (i := 1) d_M_which_1 rfl (by decide) (Or.inr rfl) ?_
  exact h
theorem r_M_which_2 {w : ab_Wd} {d n nc ns : Nat} {I : Nat → Nat → Int32} {L : Nat → Nat → Int64} {res : ab_Re} (hT : w.1.stackTraces = false) (v1 : Int32) (hc : nc ≤ res.2.2.2.2.2.1) (hs : ns ≤ res.2.2.2.2.2.2)
    (h : ((3 ≤ v1 → (res = (.inl (some (.int (-1))), (I, L, ab_RR, n, nc, ns)))) ∧ (¬ 3 ≤ v1 → ((vp_in v1 3) ∧ ∃ (j1 : Nat), (j1 < 8 ∧ ab_RR mx_words v1.toNatClampNeg = .ref (64 * j1 + 32)) ∧ ∃ (r3 : Int32), ab_C w d mt_M_is [.ref mx, .ref (64 * j1 + 32)] (I, L, ab_RR, n, nc, ns) (.inl (some (.int r3)), (I, L, ab_RR, n, nc, ns)) ∧ ((r3 = 0 → (ab_E w (d + 1) mt_M_which 2 [.ref mx, .int (v1 + 1)] [] (I, L, ab_RR, n, nc, ns) res)) ∧ (¬ r3 = 0 → (res = (.inl (some (.int v1)), (I, L, ab_RR, n, nc, ns))))))))) : ab_E w (d + 1) mt_M_which 2 [.ref mx, .int v1] [] (I, L, ab_RR, n, nc, ns) res := by
  refine ab_iload_n (i := 1) d_M_which_2 rfl rfl ?_
  refine ab_aload_n (i := 0) d_M_which_3 rfl rfl ?_
  refine ab_getR (ci := 11) (k := 0) (j := mx_words) d_M_which_4 v_1368 rfl (by decide) (by decide) rfl r_mx_0 ?_
  refine ab_alen (v := 3) d_M_which_7 (by decide) (by decide) rfl ?_
  refine ab_icmp_ge (tgt := 32) d_M_which_8 (by decide) (fun c1 => ?_) (fun c1 => ?_)
  · have h := h.1 c1
    refine ab_iconst (v := (-1)) d_M_which_32 rfl ?_
    exact ab_iret (ty := .int) d_M_which_33 rfl rfl h
  · have h := h.2 c1
    refine ab_aload_n (i := 0) d_M_which_11 rfl rfl ?_
    refine ab_aload_n (i := 0) d_M_which_12 rfl rfl ?_
    refine ab_getR (ci := 11) (k := 0) (j := mx_words) d_M_which_13 v_1368 rfl (by decide) (by decide) rfl r_mx_0 ?_
    refine ab_iload_n (i := 1) d_M_which_16 rfl rfl ?_
    have g2 := h.1; have h := h.2
    obtain ⟨j1, ⟨hj1, hR1⟩, h⟩ := h
    refine ab_aald (j := 64 * j1 + 32) d_M_which_17 rfl rfl g2 hR1 ?_
    obtain ⟨r3, hC, h⟩ := h
    refine ab_callV (me2 := mt_M_is) (b := mx) (as := [.ref (64 * j1 + 32)]) (st := []) (rv := (some (.int r3))) (M2 := (I, L, ab_RR, n, nc, ns)) d_M_which_18 ce_M_is v_1590 v_1592 v_71 (by decide) rfl (Nat.le_of_ble_eq_true rfl) hC (Nat.le_refl _) (Nat.le_refl _) hc hs (fun j h9 => by cases h9) (fun _ _ => rfl) ?_
    show ab_E w (d + 1) mt_M_which 21 [.ref mx, .int v1] [.int r3] (I, L, ab_RR, n, nc, ns) res
    refine ab_if_eq (tgt := 26) d_M_which_21 (by decide) (fun c4 => ?_) (fun c4 => ?_)
    · have h := h.1 c4
      refine ab_iinc (i := 1) (v := (v1 + 1)) d_M_which_26 rfl rfl (by decide) (Or.inr rfl) ?_
      refine ab_goto (tgt := 2) d_M_which_29 (by decide) ?_
      exact h
    · have h := h.2 c4
      refine ab_iload_n (i := 1) d_M_which_24 rfl rfl ?_
      exact ab_iret (ty := .int) d_M_which_25 rfl rfl h
theorem r_M_numberNow_0 {w : ab_Wd} {d n nc ns : Nat} {I : Nat → Nat → Int32} {L : Nat → Nat → Int64} {res : ab_Re} (hT : w.1.stackTraces = false) (v1 : Int32) (v2 : Int32) (hc : nc ≤ res.2.2.2.2.2.1) (hs : ns ≤ res.2.2.2.2.2.2)
    (h : (((I mx 15) = 0 → (((I mx 11) = 2 → ((3 < ((I mx 14) - (I mx 13)) → (((I mx 15) = 0 → (res = (.inl (some (.int v1)), ((ab_up (ab_up I mx 15 2) mx 16 (I mx 13)), L, ab_RR, n, nc, ns)))) ∧ (¬ (I mx 15) = 0 → ((¬ (I mx 15) = 0 → (res = (.inl (some (.int v1)), (I, L, ab_RR, n, nc, ns)))) ∧ ((I mx 15) = 0 → (res = (.inl (some (.int (I mx 12))), (I, L, ab_RR, n, nc, ns)))))))) ∧ (¬ 3 < ((I mx 14) - (I mx 13)) → (((I mx 12) < v1 → (((I mx 15) = 0 → (res = (.inl (some (.int v1)), ((ab_up (ab_up I mx 15 2) mx 16 (I mx 13)), L, ab_RR, n, nc, ns)))) ∧ (¬ (I mx 15) = 0 → ((¬ (I mx 15) = 0 → (res = (.inl (some (.int v1)), (I, L, ab_RR, n, nc, ns)))) ∧ ((I mx 15) = 0 → (res = (.inl (some (.int (I mx 12))), (I, L, ab_RR, n, nc, ns)))))))) ∧ (¬ (I mx 12) < v1 → (((I mx 12) ≤ v2 → ((¬ (I mx 15) = 0 → (res = (.inl (some (.int v1)), (I, L, ab_RR, n, nc, ns)))) ∧ ((I mx 15) = 0 → (res = (.inl (some (.int (I mx 12))), (I, L, ab_RR, n, nc, ns)))))) ∧ (¬ (I mx 12) ≤ v2 → (((I mx 15) = 0 → (res = (.inl (some (.int v1)), ((ab_up (ab_up I mx 15 2) mx 16 (I mx 13)), L, ab_RR, n, nc, ns)))) ∧ (¬ (I mx 15) = 0 → ((¬ (I mx 15) = 0 → (res = (.inl (some (.int v1)), (I, L, ab_RR, n, nc, ns)))) ∧ ((I mx 15) = 0 → (res = (.inl (some (.int (I mx 12))), (I, L, ab_RR, n, nc, ns)))))))))))))) ∧ (¬ (I mx 11) = 2 → (((I mx 15) = 0 → (res = (.inl (some (.int v1)), ((ab_up (ab_up I mx 15 1) mx 16 (I mx 13)), L, ab_RR, n, nc, ns)))) ∧ (¬ (I mx 15) = 0 → ((¬ (I mx 15) = 0 → (res = (.inl (some (.int v1)), (I, L, ab_RR, n, nc, ns)))) ∧ ((I mx 15) = 0 → (res = (.inl (some (.int (I mx 12))), (I, L, ab_RR, n, nc, ns)))))))))) ∧ (¬ (I mx 15) = 0 → (res = (.inl (some (.int v1)), (I, L, ab_RR, n, nc, ns)))))) : ab_E w (d + 1) mt_M_numberNow 0 [.ref mx, .int v1, .int v2] [] (I, L, ab_RR, n, nc, ns) res := by
  refine ab_aload_n (i := 0) d_M_numberNow_0 rfl rfl ?_
  refine ab_getI (ci := 11) (k := 15) d_M_numberNow_1 v_1383 rfl (by decide) (by decide) rfl ?_
  refine ab_if_eq (tgt := 9) d_M_numberNow_4 (by decide) (fun c1 => ?_) (fun c1 => ?_)
  · have h := h.1 c1
    refine ab_aload_n (i := 0) d_M_numberNow_9 rfl rfl ?_
    refine ab_getI (ci := 11) (k := 11) d_M_numberNow_10 v_1379 rfl (by decide) (by decide) rfl ?_
    refine ab_iconst (v := 2) d_M_numberNow_13 rfl ?_
    refine ab_icmp_eq (tgt := 25) d_M_numberNow_14 (by decide) (fun c2 => ?_) (fun c2 => ?_)
    · have h := h.1 c2
      refine ab_aload_n (i := 0) d_M_numberNow_25 rfl rfl ?_
      refine ab_getI (ci := 11) (k := 14) d_M_numberNow_26 v_1382 rfl (by decide) (by decide) rfl ?_
      refine ab_aload_n (i := 0) d_M_numberNow_29 rfl rfl ?_
      refine ab_getI (ci := 11) (k := 13) d_M_numberNow_30 v_1381 rfl (by decide) (by decide) rfl ?_
      refine ab_isub d_M_numberNow_33 ?_
      refine ab_iconst (v := 3) d_M_numberNow_34 rfl ?_
      refine ab_icmp_gt (tgt := 54) d_M_numberNow_35 (by decide) (fun c3 => ?_) (fun c3 => ?_)
      · have h := h.1 c3
        refine ab_aload_n (i := 0) d_M_numberNow_54 rfl rfl ?_
        refine ab_iconst (v := 2) d_M_numberNow_55 rfl ?_
        by_cases c6 : (I mx 15) = 0
        · have h := h.1 c6
          refine ab_callV (me2 := mt_M_wrong) (b := mx) (as := [.int 2]) (st := []) (rv := none) (M2 := ((ab_up (ab_up I mx 15 2) mx 16 (I mx 13)), L, ab_RR, n, nc, ns)) d_M_numberNow_56 ce_M_wrong v_1596 v_1598 v_72 (by decide) rfl (Nat.le_of_ble_eq_true rfl) (cx_M_wrong_0 2 hT c6) (Nat.le_refl _) (Nat.le_refl _) hc hs (fun j h9 => by cases h9) (fun _ _ => rfl) ?_
          show ab_E w (d + 1) mt_M_numberNow 59 [.ref mx, .int v1, .int v2] [] ((ab_up (ab_up I mx 15 2) mx 16 (I mx 13)), L, ab_RR, n, nc, ns) res
          refine ab_aload_n (i := 0) d_M_numberNow_59 rfl rfl ?_
          refine ab_getI (ci := 11) (k := 15) d_M_numberNow_60 v_1383 rfl (by decide) (by decide) rfl ?_
          refine ab_if_ne (tgt := 73) d_M_numberNow_63 (by decide) (fun _ => ?_) (fun c9 => absurd c9 (show ¬ (2 : Int32) = 0 from by decide))
          refine ab_iload_n (i := 1) d_M_numberNow_73 rfl rfl ?_
          exact ab_iret (ty := .int) d_M_numberNow_74 rfl rfl h
        · have h := h.2 c6
          refine ab_callV (me2 := mt_M_wrong) (b := mx) (as := [.int 2]) (st := []) (rv := none) (M2 := (I, L, ab_RR, n, nc, ns)) d_M_numberNow_56 ce_M_wrong v_1596 v_1598 v_72 (by decide) rfl (Nat.le_of_ble_eq_true rfl) (cx_M_wrong_1 2 hT c6) (Nat.le_refl _) (Nat.le_refl _) hc hs (fun j h9 => by cases h9) (fun _ _ => rfl) ?_
          show ab_E w (d + 1) mt_M_numberNow 59 [.ref mx, .int v1, .int v2] [] (I, L, ab_RR, n, nc, ns) res
          refine ab_aload_n (i := 0) d_M_numberNow_59 rfl rfl ?_
          refine ab_getI (ci := 11) (k := 15) d_M_numberNow_60 v_1383 rfl (by decide) (by decide) rfl ?_
          refine ab_if_ne (tgt := 73) d_M_numberNow_63 (by decide) (fun c7 => ?_) (fun c7 => ?_)
          · have h := h.1 c7
            refine ab_iload_n (i := 1) d_M_numberNow_73 rfl rfl ?_
            exact ab_iret (ty := .int) d_M_numberNow_74 rfl rfl h
          · have h := h.2 c7
            refine ab_aload_n (i := 0) d_M_numberNow_66 rfl rfl ?_
            refine ab_getI (ci := 11) (k := 12) d_M_numberNow_67 v_1380 rfl (by decide) (by decide) rfl ?_
            refine ab_goto (tgt := 74) d_M_numberNow_70 (by decide) ?_
            exact ab_iret (ty := .int) d_M_numberNow_74 rfl rfl h
      · have h := h.2 c3
        refine ab_aload_n (i := 0) d_M_numberNow_38 rfl rfl ?_
        refine ab_getI (ci := 11) (k := 12) d_M_numberNow_39 v_1380 rfl (by decide) (by decide) rfl ?_
        refine ab_iload_n (i := 1) d_M_numberNow_42 rfl rfl ?_
        refine ab_icmp_lt (tgt := 54) d_M_numberNow_43 (by decide) (fun c8 => ?_) (fun c8 => ?_)
        · have h := h.1 c8
          refine ab_aload_n (i := 0) d_M_numberNow_54 rfl rfl ?_
          refine ab_iconst (v := 2) d_M_numberNow_55 rfl ?_
          by_cases c11 : (I mx 15) = 0
          · have h := h.1 c11
            refine ab_callV (me2 := mt_M_wrong) (b := mx) (as := [.int 2]) (st := []) (rv := none) (M2 := ((ab_up (ab_up I mx 15 2) mx 16 (I mx 13)), L, ab_RR, n, nc, ns)) d_M_numberNow_56 ce_M_wrong v_1596 v_1598 v_72 (by decide) rfl (Nat.le_of_ble_eq_true rfl) (cx_M_wrong_0 2 hT c11) (Nat.le_refl _) (Nat.le_refl _) hc hs (fun j h9 => by cases h9) (fun _ _ => rfl) ?_
            show ab_E w (d + 1) mt_M_numberNow 59 [.ref mx, .int v1, .int v2] [] ((ab_up (ab_up I mx 15 2) mx 16 (I mx 13)), L, ab_RR, n, nc, ns) res
            refine ab_aload_n (i := 0) d_M_numberNow_59 rfl rfl ?_
            refine ab_getI (ci := 11) (k := 15) d_M_numberNow_60 v_1383 rfl (by decide) (by decide) rfl ?_
            refine ab_if_ne (tgt := 73) d_M_numberNow_63 (by decide) (fun _ => ?_) (fun c9 => absurd c9 (show ¬ (2 : Int32) = 0 from by decide))
            refine ab_iload_n (i := 1) d_M_numberNow_73 rfl rfl ?_
            exact ab_iret (ty := .int) d_M_numberNow_74 rfl rfl h
          · have h := h.2 c11
            refine ab_callV (me2 := mt_M_wrong) (b := mx) (as := [.int 2]) (st := []) (rv := none) (M2 := (I, L, ab_RR, n, nc, ns)) d_M_numberNow_56 ce_M_wrong v_1596 v_1598 v_72 (by decide) rfl (Nat.le_of_ble_eq_true rfl) (cx_M_wrong_1 2 hT c11) (Nat.le_refl _) (Nat.le_refl _) hc hs (fun j h9 => by cases h9) (fun _ _ => rfl) ?_
            show ab_E w (d + 1) mt_M_numberNow 59 [.ref mx, .int v1, .int v2] [] (I, L, ab_RR, n, nc, ns) res
            refine ab_aload_n (i := 0) d_M_numberNow_59 rfl rfl ?_
            refine ab_getI (ci := 11) (k := 15) d_M_numberNow_60 v_1383 rfl (by decide) (by decide) rfl ?_
            refine ab_if_ne (tgt := 73) d_M_numberNow_63 (by decide) (fun c12 => ?_) (fun c12 => ?_)
            · have h := h.1 c12
              refine ab_iload_n (i := 1) d_M_numberNow_73 rfl rfl ?_
              exact ab_iret (ty := .int) d_M_numberNow_74 rfl rfl h
            · have h := h.2 c12
              refine ab_aload_n (i := 0) d_M_numberNow_66 rfl rfl ?_
              refine ab_getI (ci := 11) (k := 12) d_M_numberNow_67 v_1380 rfl (by decide) (by decide) rfl ?_
              refine ab_goto (tgt := 74) d_M_numberNow_70 (by decide) ?_
              exact ab_iret (ty := .int) d_M_numberNow_74 rfl rfl h
        · have h := h.2 c8
          refine ab_aload_n (i := 0) d_M_numberNow_46 rfl rfl ?_
          refine ab_getI (ci := 11) (k := 12) d_M_numberNow_47 v_1380 rfl (by decide) (by decide) rfl ?_
          refine ab_iload_n (i := 2) d_M_numberNow_50 rfl rfl ?_
          refine ab_icmp_le (tgt := 59) d_M_numberNow_51 (by decide) (fun c13 => ?_) (fun c13 => ?_)
          · have h := h.1 c13
            refine ab_aload_n (i := 0) d_M_numberNow_59 rfl rfl ?_
            refine ab_getI (ci := 11) (k := 15) d_M_numberNow_60 v_1383 rfl (by decide) (by decide) rfl ?_
            refine ab_if_ne (tgt := 73) d_M_numberNow_63 (by decide) (fun c14 => ?_) (fun c14 => ?_)
            · have h := h.1 c14
              refine ab_iload_n (i := 1) d_M_numberNow_73 rfl rfl ?_
              exact ab_iret (ty := .int) d_M_numberNow_74 rfl rfl h
            · have h := h.2 c14
              refine ab_aload_n (i := 0) d_M_numberNow_66 rfl rfl ?_
              refine ab_getI (ci := 11) (k := 12) d_M_numberNow_67 v_1380 rfl (by decide) (by decide) rfl ?_
              refine ab_goto (tgt := 74) d_M_numberNow_70 (by decide) ?_
              exact ab_iret (ty := .int) d_M_numberNow_74 rfl rfl h
          · have h := h.2 c13
            refine ab_aload_n (i := 0) d_M_numberNow_54 rfl rfl ?_
            refine ab_iconst (v := 2) d_M_numberNow_55 rfl ?_
            by_cases c17 : (I mx 15) = 0
            · have h := h.1 c17
              refine ab_callV (me2 := mt_M_wrong) (b := mx) (as := [.int 2]) (st := []) (rv := none) (M2 := ((ab_up (ab_up I mx 15 2) mx 16 (I mx 13)), L, ab_RR, n, nc, ns)) d_M_numberNow_56 ce_M_wrong v_1596 v_1598 v_72 (by decide) rfl (Nat.le_of_ble_eq_true rfl) (cx_M_wrong_0 2 hT c17) (Nat.le_refl _) (Nat.le_refl _) hc hs (fun j h9 => by cases h9) (fun _ _ => rfl) ?_
              show ab_E w (d + 1) mt_M_numberNow 59 [.ref mx, .int v1, .int v2] [] ((ab_up (ab_up I mx 15 2) mx 16 (I mx 13)), L, ab_RR, n, nc, ns) res
              refine ab_aload_n (i := 0) d_M_numberNow_59 rfl rfl ?_
              refine ab_getI (ci := 11) (k := 15) d_M_numberNow_60 v_1383 rfl (by decide) (by decide) rfl ?_
              refine ab_if_ne (tgt := 73) d_M_numberNow_63 (by decide) (fun _ => ?_) (fun c9 => absurd c9 (show ¬ (2 : Int32) = 0 from by decide))
              refine ab_iload_n (i := 1) d_M_numberNow_73 rfl rfl ?_
              exact ab_iret (ty := .int) d_M_numberNow_74 rfl rfl h
            · have h := h.2 c17
              refine ab_callV (me2 := mt_M_wrong) (b := mx) (as := [.int 2]) (st := []) (rv := none) (M2 := (I, L, ab_RR, n, nc, ns)) d_M_numberNow_56 ce_M_wrong v_1596 v_1598 v_72 (by decide) rfl (Nat.le_of_ble_eq_true rfl) (cx_M_wrong_1 2 hT c17) (Nat.le_refl _) (Nat.le_refl _) hc hs (fun j h9 => by cases h9) (fun _ _ => rfl) ?_
              show ab_E w (d + 1) mt_M_numberNow 59 [.ref mx, .int v1, .int v2] [] (I, L, ab_RR, n, nc, ns) res
              refine ab_aload_n (i := 0) d_M_numberNow_59 rfl rfl ?_
              refine ab_getI (ci := 11) (k := 15) d_M_numberNow_60 v_1383 rfl (by decide) (by decide) rfl ?_
              refine ab_if_ne (tgt := 73) d_M_numberNow_63 (by decide) (fun c18 => ?_) (fun c18 => ?_)
              · have h := h.1 c18
                refine ab_iload_n (i := 1) d_M_numberNow_73 rfl rfl ?_
                exact ab_iret (ty := .int) d_M_numberNow_74 rfl rfl h
              · have h := h.2 c18
                refine ab_aload_n (i := 0) d_M_numberNow_66 rfl rfl ?_
                refine ab_getI (ci := 11) (k := 12) d_M_numberNow_67 v_1380 rfl (by decide) (by decide) rfl ?_
                refine ab_goto (tgt := 74) d_M_numberNow_70 (by decide) ?_
                exact ab_iret (ty := .int) d_M_numberNow_74 rfl rfl h
    · have h := h.2 c2
      refine ab_aload_n (i := 0) d_M_numberNow_17 rfl rfl ?_
      refine ab_iconst (v := 1) d_M_numberNow_18 rfl ?_
      by_cases c21 : (I mx 15) = 0
      · have h := h.1 c21
        refine ab_callV (me2 := mt_M_wrong) (b := mx) (as := [.int 1]) (st := []) (rv := none) (M2 := ((ab_up (ab_up I mx 15 1) mx 16 (I mx 13)), L, ab_RR, n, nc, ns)) d_M_numberNow_19 ce_M_wrong v_1596 v_1598 v_72 (by decide) rfl (Nat.le_of_ble_eq_true rfl) (cx_M_wrong_0 1 hT c21) (Nat.le_refl _) (Nat.le_refl _) hc hs (fun j h9 => by cases h9) (fun _ _ => rfl) ?_
        show ab_E w (d + 1) mt_M_numberNow 22 [.ref mx, .int v1, .int v2] [] ((ab_up (ab_up I mx 15 1) mx 16 (I mx 13)), L, ab_RR, n, nc, ns) res
        refine ab_goto (tgt := 59) d_M_numberNow_22 (by decide) ?_
        refine ab_aload_n (i := 0) d_M_numberNow_59 rfl rfl ?_
        refine ab_getI (ci := 11) (k := 15) d_M_numberNow_60 v_1383 rfl (by decide) (by decide) rfl ?_
        refine ab_if_ne (tgt := 73) d_M_numberNow_63 (by decide) (fun _ => ?_) (fun c9 => absurd c9 (show ¬ (1 : Int32) = 0 from by decide))
        refine ab_iload_n (i := 1) d_M_numberNow_73 rfl rfl ?_
        exact ab_iret (ty := .int) d_M_numberNow_74 rfl rfl h
      · have h := h.2 c21
        refine ab_callV (me2 := mt_M_wrong) (b := mx) (as := [.int 1]) (st := []) (rv := none) (M2 := (I, L, ab_RR, n, nc, ns)) d_M_numberNow_19 ce_M_wrong v_1596 v_1598 v_72 (by decide) rfl (Nat.le_of_ble_eq_true rfl) (cx_M_wrong_1 1 hT c21) (Nat.le_refl _) (Nat.le_refl _) hc hs (fun j h9 => by cases h9) (fun _ _ => rfl) ?_
        show ab_E w (d + 1) mt_M_numberNow 22 [.ref mx, .int v1, .int v2] [] (I, L, ab_RR, n, nc, ns) res
        refine ab_goto (tgt := 59) d_M_numberNow_22 (by decide) ?_
        refine ab_aload_n (i := 0) d_M_numberNow_59 rfl rfl ?_
        refine ab_getI (ci := 11) (k := 15) d_M_numberNow_60 v_1383 rfl (by decide) (by decide) rfl ?_
        refine ab_if_ne (tgt := 73) d_M_numberNow_63 (by decide) (fun c22 => ?_) (fun c22 => ?_)
        · have h := h.1 c22
          refine ab_iload_n (i := 1) d_M_numberNow_73 rfl rfl ?_
          exact ab_iret (ty := .int) d_M_numberNow_74 rfl rfl h
        · have h := h.2 c22
          refine ab_aload_n (i := 0) d_M_numberNow_66 rfl rfl ?_
          refine ab_getI (ci := 11) (k := 12) d_M_numberNow_67 v_1380 rfl (by decide) (by decide) rfl ?_
          refine ab_goto (tgt := 74) d_M_numberNow_70 (by decide) ?_
          exact ab_iret (ty := .int) d_M_numberNow_74 rfl rfl h
  · have h := h.2 c1
    refine ab_iload_n (i := 1) d_M_numberNow_7 rfl rfl ?_
    exact ab_iret (ty := .int) d_M_numberNow_8 rfl rfl h
theorem r_M_readNumber_0 {w : ab_Wd} {d n nc ns : Nat} {I : Nat → Nat → Int32} {L : Nat → Nat → Int64} {res : ab_Re} (hT : w.1.stackTraces = false) (v1 : Int32) (v2 : Int32) (hc : nc ≤ res.2.2.2.2.2.1) (hs : ns ≤ res.2.2.2.2.2.2)
    (h : ∃ (r1 : Int32) (I2 : Nat → Nat → Int32), ab_C w d mt_M_numberNow [.ref mx, .int v1, .int v2] (I, L, ab_RR, n, nc, ns) (.inl (some (.int r1)), (I2, L, ab_RR, n, nc, ns)) ∧ ((¬ (I2 mx 15) = 0 → (res = (.inl (some (.int r1)), (I2, L, ab_RR, n, nc, ns)))) ∧ ((I2 mx 15) = 0 → (∃ (I5 : Nat → Nat → Int32), ab_C w d mt_M_stepOn [.ref mx] (I2, L, ab_RR, n, nc, ns) (.inl none, (I5, L, ab_RR, n, nc, ns)) ∧ res = (.inl (some (.int r1)), (I5, L, ab_RR, n, nc, ns)))))) : ab_E w (d + 1) mt_M_readNumber 0 [.ref mx, .int v1, .int v2, .null] [] (I, L, ab_RR, n, nc, ns) res := by
  refine ab_aload_n (i := 0) d_M_readNumber_0 rfl rfl ?_
  refine ab_iload_n (i := 1) d_M_readNumber_1 rfl rfl ?_
  refine ab_iload_n (i := 2) d_M_readNumber_2 rfl rfl ?_
  obtain ⟨r1, I2, hC, h⟩ := h
  refine ab_callV (me2 := mt_M_numberNow) (b := mx) (as := [.int v1, .int v2]) (st := []) (rv := (some (.int r1))) (M2 := (I2, L, ab_RR, n, nc, ns)) d_M_readNumber_3 ce_M_numberNow v_1608 v_1610 v_75 (by decide) rfl (Nat.le_of_ble_eq_true rfl) hC (Nat.le_refl _) (Nat.le_refl _) hc hs (fun j h9 => by cases h9) (fun _ _ => rfl) ?_
  show ab_E w (d + 1) mt_M_readNumber 6 [.ref mx, .int v1, .int v2, .null] [.int r1] (I2, L, ab_RR, n, nc, ns) res
  refine ab_istore_n (i := 3) d_M_readNumber_6 rfl (by decide) (Or.inr rfl) ?_
  refine ab_aload_n (i := 0) d_M_readNumber_7 rfl rfl ?_
  refine ab_getI (ci := 11) (k := 15) d_M_readNumber_8 v_1383 rfl (by decide) (by decide) rfl ?_
  refine ab_if_ne (tgt := 18) d_M_readNumber_11 (by decide) (fun c3 => ?_) (fun c3 => ?_)
  · have h := h.1 c3
    refine ab_iload_n (i := 3) d_M_readNumber_18 rfl rfl ?_
    exact ab_iret (ty := .int) d_M_readNumber_19 rfl rfl h
  · have h := h.2 c3
    refine ab_aload_n (i := 0) d_M_readNumber_14 rfl rfl ?_
    obtain ⟨I5, hC, h⟩ := h
    refine ab_callV (me2 := mt_M_stepOn) (b := mx) (as := []) (st := []) (rv := none) (M2 := (I5, L, ab_RR, n, nc, ns)) d_M_readNumber_15 ce_M_stepOn v_1566 v_1568 v_67 (by decide) rfl (Nat.le_of_ble_eq_true rfl) hC (Nat.le_refl _) (Nat.le_refl _) hc hs (fun j h9 => by cases h9) (fun _ _ => rfl) ?_
    show ab_E w (d + 1) mt_M_readNumber 18 [.ref mx, .int v1, .int v2, .int r1] [] (I5, L, ab_RR, n, nc, ns) res
    refine ab_iload_n (i := 3) d_M_readNumber_18 rfl rfl ?_
    exact ab_iret (ty := .int) d_M_readNumber_19 rfl rfl h
theorem cx_M_sitesRead_0 {w : ab_Wd} {d n nc ns : Nat} {I : Nat → Nat → Int32} {L : Nat → Nat → Int64}  (hT : w.1.stackTraces = false) (e1 : ¬ (I mx 3) = (-1)) : ab_C w d mt_M_sitesRead [.ref mx] (I, L, ab_RR, n, nc, ns) (.inl (some (.int (I mx 3))), (I, L, ab_RR, n, nc, ns)) := by
  refine ab_C_of (by decide) rfl (Nat.le_of_ble_eq_true rfl) hT ?_
  have hc := Nat.le_refl nc
  have hs := Nat.le_refl ns
  refine ab_aload_n (i := 0) d_M_sitesRead_0 rfl rfl ?_
  refine ab_getI (ci := 11) (k := 3) d_M_sitesRead_1 v_1371 rfl (by decide) (by decide) rfl ?_
  refine ab_iconst (v := (-1)) d_M_sitesRead_4 rfl ?_
  refine ab_icmp_ne (tgt := 12) d_M_sitesRead_5 (by decide) (fun _ => ?_) (fun c9 => absurd c9 e1)
  refine ab_aload_n (i := 0) d_M_sitesRead_12 rfl rfl ?_
  refine ab_getI (ci := 11) (k := 3) d_M_sitesRead_13 v_1371 rfl (by decide) (by decide) rfl ?_
  exact ab_iret (ty := .int) d_M_sitesRead_16 rfl rfl rfl
theorem cx_M_sitesRead_1 {w : ab_Wd} {d n nc ns : Nat} {I : Nat → Nat → Int32} {L : Nat → Nat → Int64}  (hT : w.1.stackTraces = false) (e1 : (I mx 3) = (-1)) : ab_C w d mt_M_sitesRead [.ref mx] (I, L, ab_RR, n, nc, ns) (.inl (some (.int 4)), (I, L, ab_RR, n, nc, ns)) := by
  refine ab_C_of (by decide) rfl (Nat.le_of_ble_eq_true rfl) hT ?_
  have hc := Nat.le_refl nc
  have hs := Nat.le_refl ns
  refine ab_aload_n (i := 0) d_M_sitesRead_0 rfl rfl ?_
  refine ab_getI (ci := 11) (k := 3) d_M_sitesRead_1 v_1371 rfl (by decide) (by decide) rfl ?_
  refine ab_iconst (v := (-1)) d_M_sitesRead_4 rfl ?_
  refine ab_icmp_ne (tgt := 12) d_M_sitesRead_5 (by decide) (fun c9 => absurd e1 c9) (fun _ => ?_)
  refine ab_iconst (v := 4) d_M_sitesRead_8 rfl ?_
  refine ab_goto (tgt := 16) d_M_sitesRead_9 (by decide) ?_
  exact ab_iret (ty := .int) d_M_sitesRead_16 rfl rfl rfl
theorem r_M_siteNow_0 {w : ab_Wd} {d n nc ns : Nat} {I : Nat → Nat → Int32} {L : Nat → Nat → Int64} {res : ab_Re} (hT : w.1.stackTraces = false)  (hc : nc ≤ res.2.2.2.2.2.1) (hs : ns ≤ res.2.2.2.2.2.2)
    (h : ∃ (r1 : Int32) (I2 : Nat → Nat → Int32), ab_C w d mt_M_numberNow [.ref mx, .int 0, .int 9] (I, L, ab_RR, n, nc, ns) (.inl (some (.int r1)), (I2, L, ab_RR, n, nc, ns)) ∧ ((¬ (I2 mx 15) = 0 → (res = (.inl (some (.int r1)), (I2, L, ab_RR, n, nc, ns)))) ∧ ((I2 mx 15) = 0 → (((I2 mx 3) = (-1) → ((r1 < 4 → (res = (.inl (some (.int r1)), (I2, L, ab_RR, n, nc, ns)))) ∧ (¬ r1 < 4 → (((I2 mx 15) = 0 → (res = (.inl (some (.int r1)), ((ab_up (ab_up I2 mx 15 3) mx 16 (I2 mx 13)), L, ab_RR, n, nc, ns)))) ∧ (¬ (I2 mx 15) = 0 → (res = (.inl (some (.int r1)), (I2, L, ab_RR, n, nc, ns)))))))) ∧ (¬ (I2 mx 3) = (-1) → ((r1 < (I2 mx 3) → (res = (.inl (some (.int r1)), (I2, L, ab_RR, n, nc, ns)))) ∧ (¬ r1 < (I2 mx 3) → (((I2 mx 15) = 0 → (res = (.inl (some (.int r1)), ((ab_up (ab_up I2 mx 15 3) mx 16 (I2 mx 13)), L, ab_RR, n, nc, ns)))) ∧ (¬ (I2 mx 15) = 0 → (res = (.inl (some (.int r1)), (I2, L, ab_RR, n, nc, ns)))))))))))) : ab_E w (d + 1) mt_M_siteNow 0 [.ref mx, .null] [] (I, L, ab_RR, n, nc, ns) res := by
  refine ab_aload_n (i := 0) d_M_siteNow_0 rfl rfl ?_
  refine ab_iconst (v := 0) d_M_siteNow_1 rfl ?_
  refine ab_bipush (v := 9) d_M_siteNow_2 rfl ?_
  obtain ⟨r1, I2, hC, h⟩ := h
  refine ab_callV (me2 := mt_M_numberNow) (b := mx) (as := [.int 0, .int 9]) (st := []) (rv := (some (.int r1))) (M2 := (I2, L, ab_RR, n, nc, ns)) d_M_siteNow_4 ce_M_numberNow v_1608 v_1610 v_75 (by decide) rfl (Nat.le_of_ble_eq_true rfl) hC (Nat.le_refl _) (Nat.le_refl _) hc hs (fun j h9 => by cases h9) (fun _ _ => rfl) ?_
  show ab_E w (d + 1) mt_M_siteNow 7 [.ref mx, .null] [.int r1] (I2, L, ab_RR, n, nc, ns) res
  refine ab_istore_n (i := 1) d_M_siteNow_7 rfl (by decide) (Or.inr rfl) ?_
  refine ab_aload_n (i := 0) d_M_siteNow_8 rfl rfl ?_
  refine ab_getI (ci := 11) (k := 15) d_M_siteNow_9 v_1383 rfl (by decide) (by decide) rfl ?_
  refine ab_if_ne (tgt := 28) d_M_siteNow_12 (by decide) (fun c3 => ?_) (fun c3 => ?_)
  · have h := h.1 c3
    refine ab_iload_n (i := 1) d_M_siteNow_28 rfl rfl ?_
    exact ab_iret (ty := .int) d_M_siteNow_29 rfl rfl h
  · have h := h.2 c3
    refine ab_iload_n (i := 1) d_M_siteNow_15 rfl rfl ?_
    refine ab_aload_n (i := 0) d_M_siteNow_16 rfl rfl ?_
    by_cases c5 : (I2 mx 3) = (-1)
    · have h := h.1 c5
      refine ab_callV (me2 := mt_M_sitesRead) (b := mx) (as := []) (st := [.int r1]) (rv := (some (.int 4))) (M2 := (I2, L, ab_RR, n, nc, ns)) d_M_siteNow_17 ce_M_sitesRead v_1612 v_1614 v_76 (by decide) rfl (Nat.le_of_ble_eq_true rfl) (cx_M_sitesRead_1  hT c5) (Nat.le_refl _) (Nat.le_refl _) hc hs (fun j h9 => by cases h9) (fun _ _ => rfl) ?_
      show ab_E w (d + 1) mt_M_siteNow 20 [.ref mx, .int r1] [.int 4, .int r1] (I2, L, ab_RR, n, nc, ns) res
      refine ab_icmp_lt (tgt := 28) d_M_siteNow_20 (by decide) (fun c6 => ?_) (fun c6 => ?_)
      · have h := h.1 c6
        refine ab_iload_n (i := 1) d_M_siteNow_28 rfl rfl ?_
        exact ab_iret (ty := .int) d_M_siteNow_29 rfl rfl h
      · have h := h.2 c6
        refine ab_aload_n (i := 0) d_M_siteNow_23 rfl rfl ?_
        refine ab_iconst (v := 3) d_M_siteNow_24 rfl ?_
        by_cases c9 : (I2 mx 15) = 0
        · have h := h.1 c9
          refine ab_callV (me2 := mt_M_wrong) (b := mx) (as := [.int 3]) (st := []) (rv := none) (M2 := ((ab_up (ab_up I2 mx 15 3) mx 16 (I2 mx 13)), L, ab_RR, n, nc, ns)) d_M_siteNow_25 ce_M_wrong v_1596 v_1598 v_72 (by decide) rfl (Nat.le_of_ble_eq_true rfl) (cx_M_wrong_0 3 hT c9) (Nat.le_refl _) (Nat.le_refl _) hc hs (fun j h9 => by cases h9) (fun _ _ => rfl) ?_
          show ab_E w (d + 1) mt_M_siteNow 28 [.ref mx, .int r1] [] ((ab_up (ab_up I2 mx 15 3) mx 16 (I2 mx 13)), L, ab_RR, n, nc, ns) res
          refine ab_iload_n (i := 1) d_M_siteNow_28 rfl rfl ?_
          exact ab_iret (ty := .int) d_M_siteNow_29 rfl rfl h
        · have h := h.2 c9
          refine ab_callV (me2 := mt_M_wrong) (b := mx) (as := [.int 3]) (st := []) (rv := none) (M2 := (I2, L, ab_RR, n, nc, ns)) d_M_siteNow_25 ce_M_wrong v_1596 v_1598 v_72 (by decide) rfl (Nat.le_of_ble_eq_true rfl) (cx_M_wrong_1 3 hT c9) (Nat.le_refl _) (Nat.le_refl _) hc hs (fun j h9 => by cases h9) (fun _ _ => rfl) ?_
          show ab_E w (d + 1) mt_M_siteNow 28 [.ref mx, .int r1] [] (I2, L, ab_RR, n, nc, ns) res
          refine ab_iload_n (i := 1) d_M_siteNow_28 rfl rfl ?_
          exact ab_iret (ty := .int) d_M_siteNow_29 rfl rfl h
    · have h := h.2 c5
      refine ab_callV (me2 := mt_M_sitesRead) (b := mx) (as := []) (st := [.int r1]) (rv := (some (.int (I2 mx 3)))) (M2 := (I2, L, ab_RR, n, nc, ns)) d_M_siteNow_17 ce_M_sitesRead v_1612 v_1614 v_76 (by decide) rfl (Nat.le_of_ble_eq_true rfl) (cx_M_sitesRead_0  hT c5) (Nat.le_refl _) (Nat.le_refl _) hc hs (fun j h9 => by cases h9) (fun _ _ => rfl) ?_
      show ab_E w (d + 1) mt_M_siteNow 20 [.ref mx, .int r1] [.int (I2 mx 3), .int r1] (I2, L, ab_RR, n, nc, ns) res
      refine ab_icmp_lt (tgt := 28) d_M_siteNow_20 (by decide) (fun c10 => ?_) (fun c10 => ?_)
      · have h := h.1 c10
        refine ab_iload_n (i := 1) d_M_siteNow_28 rfl rfl ?_
        exact ab_iret (ty := .int) d_M_siteNow_29 rfl rfl h
      · have h := h.2 c10
        refine ab_aload_n (i := 0) d_M_siteNow_23 rfl rfl ?_
        refine ab_iconst (v := 3) d_M_siteNow_24 rfl ?_
        by_cases c13 : (I2 mx 15) = 0
        · have h := h.1 c13
          refine ab_callV (me2 := mt_M_wrong) (b := mx) (as := [.int 3]) (st := []) (rv := none) (M2 := ((ab_up (ab_up I2 mx 15 3) mx 16 (I2 mx 13)), L, ab_RR, n, nc, ns)) d_M_siteNow_25 ce_M_wrong v_1596 v_1598 v_72 (by decide) rfl (Nat.le_of_ble_eq_true rfl) (cx_M_wrong_0 3 hT c13) (Nat.le_refl _) (Nat.le_refl _) hc hs (fun j h9 => by cases h9) (fun _ _ => rfl) ?_
          show ab_E w (d + 1) mt_M_siteNow 28 [.ref mx, .int r1] [] ((ab_up (ab_up I2 mx 15 3) mx 16 (I2 mx 13)), L, ab_RR, n, nc, ns) res
          refine ab_iload_n (i := 1) d_M_siteNow_28 rfl rfl ?_
          exact ab_iret (ty := .int) d_M_siteNow_29 rfl rfl h
        · have h := h.2 c13
          refine ab_callV (me2 := mt_M_wrong) (b := mx) (as := [.int 3]) (st := []) (rv := none) (M2 := (I2, L, ab_RR, n, nc, ns)) d_M_siteNow_25 ce_M_wrong v_1596 v_1598 v_72 (by decide) rfl (Nat.le_of_ble_eq_true rfl) (cx_M_wrong_1 3 hT c13) (Nat.le_refl _) (Nat.le_refl _) hc hs (fun j h9 => by cases h9) (fun _ _ => rfl) ?_
          show ab_E w (d + 1) mt_M_siteNow 28 [.ref mx, .int r1] [] (I2, L, ab_RR, n, nc, ns) res
          refine ab_iload_n (i := 1) d_M_siteNow_28 rfl rfl ?_
          exact ab_iret (ty := .int) d_M_siteNow_29 rfl rfl h
theorem r_M_readCable_0 {w : ab_Wd} {d n nc ns : Nat} {I : Nat → Nat → Int32} {L : Nat → Nat → Int64} {res : ab_Re} (hT : w.1.stackTraces = false)  (hc : nc ≤ res.2.2.2.2.2.1) (hs : ns ≤ res.2.2.2.2.2.2)
    (h : ((¬ (I mx_reading 0) = 24 → (ab_E w (d + 1) mt_M_readCable 16 [.ref mx, .null] [] (I, L, ab_RR, n, nc, ns) res)) ∧ ((I mx_reading 0) = 24 → (((I mx 15) = 0 → (ab_E w (d + 1) mt_M_readCable 16 [.ref mx, .null] [] ((ab_up (ab_up I mx 15 2) mx 16 (I mx 13)), L, ab_RR, n, nc, ns) res)) ∧ (¬ (I mx 15) = 0 → (ab_E w (d + 1) mt_M_readCable 16 [.ref mx, .null] [] (I, L, ab_RR, n, nc, ns) res)))))) : ab_E w (d + 1) mt_M_readCable 0 [.ref mx, .null] [] (I, L, ab_RR, n, nc, ns) res := by
  refine ab_aload_n (i := 0) d_M_readCable_0 rfl rfl ?_
  refine ab_getR (ci := 11) (k := 5) (j := mx_reading) d_M_readCable_1 v_1373 rfl (by decide) (by decide) rfl r_mx_5 ?_
  refine ab_iconst (v := 0) d_M_readCable_4 rfl ?_
  refine ab_iald d_M_readCable_5 rfl rfl (by unfold vp_in; decide) ?_
  refine ab_bipush (v := 24) d_M_readCable_6 rfl ?_
  refine ab_icmp_ne (tgt := 16) d_M_readCable_8 (by decide) (fun c1 => ?_) (fun c1 => ?_)
  · have h := h.1 c1
    exact h
  · have h := h.2 c1
    refine ab_aload_n (i := 0) d_M_readCable_11 rfl rfl ?_
    refine ab_iconst (v := 2) d_M_readCable_12 rfl ?_
    by_cases c4 : (I mx 15) = 0
    · have h := h.1 c4
      refine ab_callV (me2 := mt_M_wrong) (b := mx) (as := [.int 2]) (st := []) (rv := none) (M2 := ((ab_up (ab_up I mx 15 2) mx 16 (I mx 13)), L, ab_RR, n, nc, ns)) d_M_readCable_13 ce_M_wrong v_1596 v_1598 v_72 (by decide) rfl (Nat.le_of_ble_eq_true rfl) (cx_M_wrong_0 2 hT c4) (Nat.le_refl _) (Nat.le_refl _) hc hs (fun j h9 => by cases h9) (fun _ _ => rfl) ?_
      show ab_E w (d + 1) mt_M_readCable 16 [.ref mx, .null] [] ((ab_up (ab_up I mx 15 2) mx 16 (I mx 13)), L, ab_RR, n, nc, ns) res
      exact h
    · have h := h.2 c4
      refine ab_callV (me2 := mt_M_wrong) (b := mx) (as := [.int 2]) (st := []) (rv := none) (M2 := (I, L, ab_RR, n, nc, ns)) d_M_readCable_13 ce_M_wrong v_1596 v_1598 v_72 (by decide) rfl (Nat.le_of_ble_eq_true rfl) (cx_M_wrong_1 2 hT c4) (Nat.le_refl _) (Nat.le_refl _) hc hs (fun j h9 => by cases h9) (fun _ _ => rfl) ?_
      show ab_E w (d + 1) mt_M_readCable 16 [.ref mx, .null] [] (I, L, ab_RR, n, nc, ns) res
      exact h
theorem r_M_readCable_16 {w : ab_Wd} {d n nc ns : Nat} {I : Nat → Nat → Int32} {L : Nat → Nat → Int64} {res : ab_Re} (hT : w.1.stackTraces = false)  (hc : nc ≤ res.2.2.2.2.2.1) (hs : ns ≤ res.2.2.2.2.2.2)
    (h : (((I mx 15) = 0 → (∃ (I3 : Nat → Nat → Int32), ab_C w d mt_M_stepOn [.ref mx] (I, L, ab_RR, n, nc, ns) (.inl none, (I3, L, ab_RR, n, nc, ns)) ∧ ∃ (r4 : Int32) (I5 : Nat → Nat → Int32), ab_C w d mt_M_siteNow [.ref mx] (I3, L, ab_RR, n, nc, ns) (.inl (some (.int r4)), (I5, L, ab_RR, n, nc, ns)) ∧ (vp_in (3 + (I3 mx_reading 0)) 399) ∧ ((¬ (I5 mx 15) = 0 → (ab_E w (d + 1) mt_M_readCable 58 [.ref mx, .int (I3 mx_reading 0)] [] ((ab_up I5 mx_reading (3 + (I3 mx_reading 0)).toNatClampNeg r4), L, ab_RR, n, nc, ns) res)) ∧ ((I5 mx 15) = 0 → (∃ (I9 : Nat → Nat → Int32), ab_C w d mt_M_stepOn [.ref mx] ((ab_up I5 mx_reading (3 + (I3 mx_reading 0)).toNatClampNeg r4), L, ab_RR, n, nc, ns) (.inl none, (I9, L, ab_RR, n, nc, ns)) ∧ ab_E w (d + 1) mt_M_readCable 58 [.ref mx, .int (I3 mx_reading 0)] [] (I9, L, ab_RR, n, nc, ns) res))))) ∧ (¬ (I mx 15) = 0 → (res = (.inl none, (I, L, ab_RR, n, nc, ns)))))) : ab_E w (d + 1) mt_M_readCable 16 [.ref mx, .null] [] (I, L, ab_RR, n, nc, ns) res := by
  refine ab_aload_n (i := 0) d_M_readCable_16 rfl rfl ?_
  refine ab_getI (ci := 11) (k := 15) d_M_readCable_17 v_1383 rfl (by decide) (by decide) rfl ?_
  refine ab_if_eq (tgt := 24) d_M_readCable_20 (by decide) (fun c1 => ?_) (fun c1 => ?_)
  · have h := h.1 c1
    refine ab_aload_n (i := 0) d_M_readCable_24 rfl rfl ?_
    obtain ⟨I3, hC, h⟩ := h
    refine ab_callV (me2 := mt_M_stepOn) (b := mx) (as := []) (st := []) (rv := none) (M2 := (I3, L, ab_RR, n, nc, ns)) d_M_readCable_25 ce_M_stepOn v_1566 v_1568 v_67 (by decide) rfl (Nat.le_of_ble_eq_true rfl) hC (Nat.le_refl _) (Nat.le_refl _) hc hs (fun j h9 => by cases h9) (fun _ _ => rfl) ?_
    show ab_E w (d + 1) mt_M_readCable 28 [.ref mx, .null] [] (I3, L, ab_RR, n, nc, ns) res
    refine ab_aload_n (i := 0) d_M_readCable_28 rfl rfl ?_
    refine ab_getR (ci := 11) (k := 5) (j := mx_reading) d_M_readCable_29 v_1373 rfl (by decide) (by decide) rfl r_mx_5 ?_
    refine ab_iconst (v := 0) d_M_readCable_32 rfl ?_
    refine ab_iald d_M_readCable_33 rfl rfl (by unfold vp_in; decide) ?_
    refine ab_istore_n (i := 1) d_M_readCable_34 rfl (by decide) (Or.inr rfl) ?_
    refine ab_aload_n (i := 0) d_M_readCable_35 rfl rfl ?_
    refine ab_getR (ci := 11) (k := 5) (j := mx_reading) d_M_readCable_36 v_1373 rfl (by decide) (by decide) rfl r_mx_5 ?_
    refine ab_iconst (v := 3) d_M_readCable_39 rfl ?_
    refine ab_iload_n (i := 1) d_M_readCable_40 rfl rfl ?_
    refine ab_iadd d_M_readCable_41 ?_
    refine ab_aload_n (i := 0) d_M_readCable_42 rfl rfl ?_
    obtain ⟨r4, I5, hC, h⟩ := h
    refine ab_callV (me2 := mt_M_siteNow) (b := mx) (as := []) (st := [.int (3 + (I3 mx_reading 0)), .ref mx_reading]) (rv := (some (.int r4))) (M2 := (I5, L, ab_RR, n, nc, ns)) d_M_readCable_43 ce_M_siteNow v_1604 v_1606 v_74 (by decide) rfl (Nat.le_of_ble_eq_true rfl) hC (Nat.le_refl _) (Nat.le_refl _) hc hs (fun j h9 => by cases h9) (fun _ _ => rfl) ?_
    show ab_E w (d + 1) mt_M_readCable 46 [.ref mx, .int (I3 mx_reading 0)] [.int r4, .int (3 + (I3 mx_reading 0)), .ref mx_reading] (I5, L, ab_RR, n, nc, ns) res
    have g6 := h.1; have h := h.2
    refine ab_iast d_M_readCable_46 rfl rfl g6 ?_
    refine ab_aload_n (i := 0) d_M_readCable_47 rfl rfl ?_
    refine ab_getI (ci := 11) (k := 15) d_M_readCable_48 v_1383 rfl (by decide) (by decide) rfl ?_
    refine ab_if_ne (tgt := 58) d_M_readCable_51 (by decide) (fun c7 => ?_) (fun c7 => ?_)
    · have h := h.1 c7
      exact h
    · have h := h.2 c7
      refine ab_aload_n (i := 0) d_M_readCable_54 rfl rfl ?_
      obtain ⟨I9, hC, h⟩ := h
      refine ab_callV (me2 := mt_M_stepOn) (b := mx) (as := []) (st := []) (rv := none) (M2 := (I9, L, ab_RR, n, nc, ns)) d_M_readCable_55 ce_M_stepOn v_1566 v_1568 v_67 (by decide) rfl (Nat.le_of_ble_eq_true rfl) hC (Nat.le_refl _) (Nat.le_refl _) hc hs (fun j h9 => by cases h9) (fun _ _ => rfl) ?_
      show ab_E w (d + 1) mt_M_readCable 58 [.ref mx, .int (I3 mx_reading 0)] [] (I9, L, ab_RR, n, nc, ns) res
      exact h
  · have h := h.2 c1
    exact ab_vret d_M_readCable_23 rfl h
theorem r_M_readCable_58 {w : ab_Wd} {d n nc ns : Nat} {I : Nat → Nat → Int32} {L : Nat → Nat → Int64} {res : ab_Re} (hT : w.1.stackTraces = false) (v1 : Int32) (hc : nc ≤ res.2.2.2.2.2.1) (hs : ns ≤ res.2.2.2.2.2.2)
    (h : ∃ (r1 : Int32) (I2 : Nat → Nat → Int32), ab_C w d mt_M_siteNow [.ref mx] (I, L, ab_RR, n, nc, ns) (.inl (some (.int r1)), (I2, L, ab_RR, n, nc, ns)) ∧ (vp_in (27 + v1) 399) ∧ ((¬ (I2 mx 15) = 0 → (ab_E w (d + 1) mt_M_readCable 103 [.ref mx, .int v1] [] ((ab_up I2 mx_reading (27 + v1).toNatClampNeg r1), L, ab_RR, n, nc, ns) res)) ∧ ((I2 mx 15) = 0 → ((vp_in (3 + v1) 399) ∧ ((¬ ((ab_up I2 mx_reading (27 + v1).toNatClampNeg r1) mx_reading (27 + v1).toNatClampNeg) = ((ab_up I2 mx_reading (27 + v1).toNatClampNeg r1) mx_reading (3 + v1).toNatClampNeg) → (ab_E w (d + 1) mt_M_readCable 103 [.ref mx, .int v1] [] ((ab_up I2 mx_reading (27 + v1).toNatClampNeg r1), L, ab_RR, n, nc, ns) res)) ∧ (((ab_up I2 mx_reading (27 + v1).toNatClampNeg r1) mx_reading (27 + v1).toNatClampNeg) = ((ab_up I2 mx_reading (27 + v1).toNatClampNeg r1) mx_reading (3 + v1).toNatClampNeg) → (((I2 mx 15) = 0 → (ab_E w (d + 1) mt_M_readCable 103 [.ref mx, .int v1] [] ((ab_up (ab_up (ab_up I2 mx_reading (27 + v1).toNatClampNeg r1) mx 15 5) mx 16 (I2 mx 13)), L, ab_RR, n, nc, ns) res)) ∧ (¬ (I2 mx 15) = 0 → (ab_E w (d + 1) mt_M_readCable 103 [.ref mx, .int v1] [] ((ab_up I2 mx_reading (27 + v1).toNatClampNeg r1), L, ab_RR, n, nc, ns) res))))))))) : ab_E w (d + 1) mt_M_readCable 58 [.ref mx, .int v1] [] (I, L, ab_RR, n, nc, ns) res := by
  refine ab_aload_n (i := 0) d_M_readCable_58 rfl rfl ?_
  refine ab_getR (ci := 11) (k := 5) (j := mx_reading) d_M_readCable_59 v_1373 rfl (by decide) (by decide) rfl r_mx_5 ?_
  refine ab_bipush (v := 27) d_M_readCable_62 rfl ?_
  refine ab_iload_n (i := 1) d_M_readCable_64 rfl rfl ?_
  refine ab_iadd d_M_readCable_65 ?_
  refine ab_aload_n (i := 0) d_M_readCable_66 rfl rfl ?_
  obtain ⟨r1, I2, hC, h⟩ := h
  refine ab_callV (me2 := mt_M_siteNow) (b := mx) (as := []) (st := [.int (27 + v1), .ref mx_reading]) (rv := (some (.int r1))) (M2 := (I2, L, ab_RR, n, nc, ns)) d_M_readCable_67 ce_M_siteNow v_1604 v_1606 v_74 (by decide) rfl (Nat.le_of_ble_eq_true rfl) hC (Nat.le_refl _) (Nat.le_refl _) hc hs (fun j h9 => by cases h9) (fun _ _ => rfl) ?_
  show ab_E w (d + 1) mt_M_readCable 70 [.ref mx, .int v1] [.int r1, .int (27 + v1), .ref mx_reading] (I2, L, ab_RR, n, nc, ns) res
  have g3 := h.1; have h := h.2
  refine ab_iast d_M_readCable_70 rfl rfl g3 ?_
  refine ab_aload_n (i := 0) d_M_readCable_71 rfl rfl ?_
  refine ab_getI (ci := 11) (k := 15) d_M_readCable_72 v_1383 rfl (by decide) (by decide) rfl ?_
  refine ab_if_ne (tgt := 103) d_M_readCable_75 (by decide) (fun c4 => ?_) (fun c4 => ?_)
  · have h := h.1 c4
    exact h
  · have h := h.2 c4
    refine ab_aload_n (i := 0) d_M_readCable_78 rfl rfl ?_
    refine ab_getR (ci := 11) (k := 5) (j := mx_reading) d_M_readCable_79 v_1373 rfl (by decide) (by decide) rfl r_mx_5 ?_
    refine ab_bipush (v := 27) d_M_readCable_82 rfl ?_
    refine ab_iload_n (i := 1) d_M_readCable_84 rfl rfl ?_
    refine ab_iadd d_M_readCable_85 ?_
    refine ab_iald d_M_readCable_86 rfl rfl g3 ?_
    refine ab_aload_n (i := 0) d_M_readCable_87 rfl rfl ?_
    refine ab_getR (ci := 11) (k := 5) (j := mx_reading) d_M_readCable_88 v_1373 rfl (by decide) (by decide) rfl r_mx_5 ?_
    refine ab_iconst (v := 3) d_M_readCable_91 rfl ?_
    refine ab_iload_n (i := 1) d_M_readCable_92 rfl rfl ?_
    refine ab_iadd d_M_readCable_93 ?_
    have g5 := h.1; have h := h.2
    refine ab_iald d_M_readCable_94 rfl rfl g5 ?_
    refine ab_icmp_ne (tgt := 103) d_M_readCable_95 (by decide) (fun c6 => ?_) (fun c6 => ?_)
    · have h := h.1 c6
      exact h
    · have h := h.2 c6
      refine ab_aload_n (i := 0) d_M_readCable_98 rfl rfl ?_
      refine ab_iconst (v := 5) d_M_readCable_99 rfl ?_
      by_cases c9 : (I2 mx 15) = 0
      · have h := h.1 c9
        refine ab_callV (me2 := mt_M_wrong) (b := mx) (as := [.int 5]) (st := []) (rv := none) (M2 := ((ab_up (ab_up (ab_up I2 mx_reading (27 + v1).toNatClampNeg r1) mx 15 5) mx 16 (I2 mx 13)), L, ab_RR, n, nc, ns)) d_M_readCable_100 ce_M_wrong v_1596 v_1598 v_72 (by decide) rfl (Nat.le_of_ble_eq_true rfl) (cx_M_wrong_0 5 hT c9) (Nat.le_refl _) (Nat.le_refl _) hc hs (fun j h9 => by cases h9) (fun _ _ => rfl) ?_
        show ab_E w (d + 1) mt_M_readCable 103 [.ref mx, .int v1] [] ((ab_up (ab_up (ab_up I2 mx_reading (27 + v1).toNatClampNeg r1) mx 15 5) mx 16 (I2 mx 13)), L, ab_RR, n, nc, ns) res
        exact h
      · have h := h.2 c9
        refine ab_callV (me2 := mt_M_wrong) (b := mx) (as := [.int 5]) (st := []) (rv := none) (M2 := ((ab_up I2 mx_reading (27 + v1).toNatClampNeg r1), L, ab_RR, n, nc, ns)) d_M_readCable_100 ce_M_wrong v_1596 v_1598 v_72 (by decide) rfl (Nat.le_of_ble_eq_true rfl) (cx_M_wrong_1 5 hT c9) (Nat.le_refl _) (Nat.le_refl _) hc hs (fun j h9 => by cases h9) (fun _ _ => rfl) ?_
        show ab_E w (d + 1) mt_M_readCable 103 [.ref mx, .int v1] [] ((ab_up I2 mx_reading (27 + v1).toNatClampNeg r1), L, ab_RR, n, nc, ns) res
        exact h
theorem r_M_readCable_103 {w : ab_Wd} {d n nc ns : Nat} {I : Nat → Nat → Int32} {L : Nat → Nat → Int64} {res : ab_Re} (hT : w.1.stackTraces = false) (v1 : Int32) (hc : nc ≤ res.2.2.2.2.2.1) (hs : ns ≤ res.2.2.2.2.2.2)
    (h : ((¬ (I mx 15) = 0 → (ab_E w (d + 1) mt_M_readCable 114 [.ref mx, .int v1] [] (I, L, ab_RR, n, nc, ns) res)) ∧ ((I mx 15) = 0 → (∃ (I3 : Nat → Nat → Int32), ab_C w d mt_M_stepOn [.ref mx] (I, L, ab_RR, n, nc, ns) (.inl none, (I3, L, ab_RR, n, nc, ns)) ∧ ab_E w (d + 1) mt_M_readCable 114 [.ref mx, .int v1] [] (I3, L, ab_RR, n, nc, ns) res)))) : ab_E w (d + 1) mt_M_readCable 103 [.ref mx, .int v1] [] (I, L, ab_RR, n, nc, ns) res := by
  refine ab_aload_n (i := 0) d_M_readCable_103 rfl rfl ?_
  refine ab_getI (ci := 11) (k := 15) d_M_readCable_104 v_1383 rfl (by decide) (by decide) rfl ?_
  refine ab_if_ne (tgt := 114) d_M_readCable_107 (by decide) (fun c1 => ?_) (fun c1 => ?_)
  · have h := h.1 c1
    exact h
  · have h := h.2 c1
    refine ab_aload_n (i := 0) d_M_readCable_110 rfl rfl ?_
    obtain ⟨I3, hC, h⟩ := h
    refine ab_callV (me2 := mt_M_stepOn) (b := mx) (as := []) (st := []) (rv := none) (M2 := (I3, L, ab_RR, n, nc, ns)) d_M_readCable_111 ce_M_stepOn v_1566 v_1568 v_67 (by decide) rfl (Nat.le_of_ble_eq_true rfl) hC (Nat.le_refl _) (Nat.le_refl _) hc hs (fun j h9 => by cases h9) (fun _ _ => rfl) ?_
    show ab_E w (d + 1) mt_M_readCable 114 [.ref mx, .int v1] [] (I3, L, ab_RR, n, nc, ns) res
    exact h
theorem r_M_readCable_114 {w : ab_Wd} {d n nc ns : Nat} {I : Nat → Nat → Int32} {L : Nat → Nat → Int64} {res : ab_Re} (hT : w.1.stackTraces = false) (v1 : Int32) (hc : nc ≤ res.2.2.2.2.2.1) (hs : ns ≤ res.2.2.2.2.2.2)
    (h : ∃ (r1 : Int32) (I2 : Nat → Nat → Int32), ab_C w d mt_M_readNumber [.ref mx, .int 1, .int 999] (I, L, ab_RR, n, nc, ns) (.inl (some (.int r1)), (I2, L, ab_RR, n, nc, ns)) ∧ (vp_in (51 + v1) 399) ∧ ((¬ (I2 mx 15) = 0 → (ab_E w (d + 1) mt_M_readCable 163 [.ref mx, .int v1] [.int (75 + v1), .ref mx_reading] ((ab_up I2 mx_reading (51 + v1).toNatClampNeg r1), L, ab_RR, n, nc, ns) res)) ∧ ((I2 mx 15) = 0 → ((¬ (I2 mx 11) = 2 → (ab_E w (d + 1) mt_M_readCable 163 [.ref mx, .int v1] [.int (75 + v1), .ref mx_reading] ((ab_up I2 mx_reading (51 + v1).toNatClampNeg r1), L, ab_RR, n, nc, ns) res)) ∧ ((I2 mx 11) = 2 → (∃ (r6 : Int32) (I7 : Nat → Nat → Int32), ab_C w d mt_M_readNumber [.ref mx, .int 0, .int 3] ((ab_up I2 mx_reading (51 + v1).toNatClampNeg r1), L, ab_RR, n, nc, ns) (.inl (some (.int r6)), (I7, L, ab_RR, n, nc, ns)) ∧ ab_E w (d + 1) mt_M_readCable 164 [.ref mx, .int v1] [.int r6, .int (75 + v1), .ref mx_reading] (I7, L, ab_RR, n, nc, ns) res)))))) : ab_E w (d + 1) mt_M_readCable 114 [.ref mx, .int v1] [] (I, L, ab_RR, n, nc, ns) res := by
  refine ab_aload_n (i := 0) d_M_readCable_114 rfl rfl ?_
  refine ab_getR (ci := 11) (k := 5) (j := mx_reading) d_M_readCable_115 v_1373 rfl (by decide) (by decide) rfl r_mx_5 ?_
  refine ab_bipush (v := 51) d_M_readCable_118 rfl ?_
  refine ab_iload_n (i := 1) d_M_readCable_120 rfl rfl ?_
  refine ab_iadd d_M_readCable_121 ?_
  refine ab_aload_n (i := 0) d_M_readCable_122 rfl rfl ?_
  refine ab_iconst (v := 1) d_M_readCable_123 rfl ?_
  refine ab_sipush (v := 999) d_M_readCable_124 rfl ?_
  obtain ⟨r1, I2, hC, h⟩ := h
  refine ab_callV (me2 := mt_M_readNumber) (b := mx) (as := [.int 1, .int 999]) (st := [.int (51 + v1), .ref mx_reading]) (rv := (some (.int r1))) (M2 := (I2, L, ab_RR, n, nc, ns)) d_M_readCable_127 ce_M_readNumber v_1616 v_1618 v_77 (by decide) rfl (Nat.le_of_ble_eq_true rfl) hC (Nat.le_refl _) (Nat.le_refl _) hc hs (fun j h9 => by cases h9) (fun _ _ => rfl) ?_
  show ab_E w (d + 1) mt_M_readCable 130 [.ref mx, .int v1] [.int r1, .int (51 + v1), .ref mx_reading] (I2, L, ab_RR, n, nc, ns) res
  have g3 := h.1; have h := h.2
  refine ab_iast d_M_readCable_130 rfl rfl g3 ?_
  refine ab_aload_n (i := 0) d_M_readCable_131 rfl rfl ?_
  refine ab_getR (ci := 11) (k := 5) (j := mx_reading) d_M_readCable_132 v_1373 rfl (by decide) (by decide) rfl r_mx_5 ?_
  refine ab_bipush (v := 75) d_M_readCable_135 rfl ?_
  refine ab_iload_n (i := 1) d_M_readCable_137 rfl rfl ?_
  refine ab_iadd d_M_readCable_138 ?_
  refine ab_aload_n (i := 0) d_M_readCable_139 rfl rfl ?_
  refine ab_getI (ci := 11) (k := 15) d_M_readCable_140 v_1383 rfl (by decide) (by decide) rfl ?_
  refine ab_if_ne (tgt := 163) d_M_readCable_143 (by decide) (fun c4 => ?_) (fun c4 => ?_)
  · have h := h.1 c4
    exact h
  · have h := h.2 c4
    refine ab_aload_n (i := 0) d_M_readCable_146 rfl rfl ?_
    refine ab_getI (ci := 11) (k := 11) d_M_readCable_147 v_1379 rfl (by decide) (by decide) rfl ?_
    refine ab_iconst (v := 2) d_M_readCable_150 rfl ?_
    refine ab_icmp_ne (tgt := 163) d_M_readCable_151 (by decide) (fun c5 => ?_) (fun c5 => ?_)
    · have h := h.1 c5
      exact h
    · have h := h.2 c5
      refine ab_aload_n (i := 0) d_M_readCable_154 rfl rfl ?_
      refine ab_iconst (v := 0) d_M_readCable_155 rfl ?_
      refine ab_iconst (v := 3) d_M_readCable_156 rfl ?_
      obtain ⟨r6, I7, hC, h⟩ := h
      refine ab_callV (me2 := mt_M_readNumber) (b := mx) (as := [.int 0, .int 3]) (st := [.int (75 + v1), .ref mx_reading]) (rv := (some (.int r6))) (M2 := (I7, L, ab_RR, n, nc, ns)) d_M_readCable_157 ce_M_readNumber v_1616 v_1618 v_77 (by decide) rfl (Nat.le_of_ble_eq_true rfl) hC (Nat.le_refl _) (Nat.le_refl _) hc hs (fun j h9 => by cases h9) (fun _ _ => rfl) ?_
      show ab_E w (d + 1) mt_M_readCable 160 [.ref mx, .int v1] [.int r6, .int (75 + v1), .ref mx_reading] (I7, L, ab_RR, n, nc, ns) res
      refine ab_goto (tgt := 164) d_M_readCable_160 (by decide) ?_
      exact h
theorem r_M_readCable_163 {w : ab_Wd} {d n nc ns : Nat} {I : Nat → Nat → Int32} {L : Nat → Nat → Int64} {res : ab_Re} (hT : w.1.stackTraces = false) (v1 : Int32) (s1 : Int32) (hc : nc ≤ res.2.2.2.2.2.1) (hs : ns ≤ res.2.2.2.2.2.2)
    (h : ab_E w (d + 1) mt_M_readCable 164 [.ref mx, .int v1] [.int 0, .int s1, .ref mx_reading] (I, L, ab_RR, n, nc, ns) res) : ab_E w (d + 1) mt_M_readCable 163 [.ref mx, .int v1] [.int s1, .ref mx_reading] (I, L, ab_RR, n, nc, ns) res := by
  refine ab_iconst (v := 0) d_M_readCable_163 rfl ?_
  exact h
theorem r_M_readCable_164 {w : ab_Wd} {d n nc ns : Nat} {I : Nat → Nat → Int32} {L : Nat → Nat → Int64} {res : ab_Re} (hT : w.1.stackTraces = false) (v1 : Int32) (s1 : Int32) (s2 : Int32) (hc : nc ≤ res.2.2.2.2.2.1) (hs : ns ≤ res.2.2.2.2.2.2)
    (h : (vp_in s1 399) ∧ res = (.inl none, ((ab_up (ab_up (ab_up I mx_reading s1.toNatClampNeg s2) mx_reading 1 (((ab_up I mx_reading s1.toNatClampNeg s2) mx_reading 1) ||| ((1 : Int32) <<< (v1 &&& 31)))) mx_reading 0 (((ab_up (ab_up I mx_reading s1.toNatClampNeg s2) mx_reading 1 (((ab_up I mx_reading s1.toNatClampNeg s2) mx_reading 1) ||| ((1 : Int32) <<< (v1 &&& 31)))) mx_reading 0) + 1)), L, ab_RR, n, nc, ns))) : ab_E w (d + 1) mt_M_readCable 164 [.ref mx, .int v1] [.int s2, .int s1, .ref mx_reading] (I, L, ab_RR, n, nc, ns) res := by
  have g1 := h.1; have h := h.2
  refine ab_iast d_M_readCable_164 rfl rfl g1 ?_
  refine ab_aload_n (i := 0) d_M_readCable_165 rfl rfl ?_
  refine ab_getR (ci := 11) (k := 5) (j := mx_reading) d_M_readCable_166 v_1373 rfl (by decide) (by decide) rfl r_mx_5 ?_
  refine ab_iconst (v := 1) d_M_readCable_169 rfl ?_
  refine ab_dup2 d_M_readCable_170 ?_
  refine ab_iald d_M_readCable_171 rfl rfl (by unfold vp_in; decide) ?_
  refine ab_iconst (v := 1) d_M_readCable_172 rfl ?_
  refine ab_iload_n (i := 1) d_M_readCable_173 rfl rfl ?_
  refine ab_ishl d_M_readCable_174 ?_
  refine ab_ior d_M_readCable_175 ?_
  refine ab_iast d_M_readCable_176 rfl rfl (by unfold vp_in; decide) ?_
  refine ab_aload_n (i := 0) d_M_readCable_177 rfl rfl ?_
  refine ab_getR (ci := 11) (k := 5) (j := mx_reading) d_M_readCable_178 v_1373 rfl (by decide) (by decide) rfl r_mx_5 ?_
  refine ab_iconst (v := 0) d_M_readCable_181 rfl ?_
  refine ab_dup2 d_M_readCable_182 ?_
  refine ab_iald d_M_readCable_183 rfl rfl (by unfold vp_in; decide) ?_
  refine ab_iconst (v := 1) d_M_readCable_184 rfl ?_
  refine ab_iadd d_M_readCable_185 ?_
  refine ab_iast d_M_readCable_186 rfl rfl (by unfold vp_in; decide) ?_
  exact ab_vret d_M_readCable_187 rfl h
