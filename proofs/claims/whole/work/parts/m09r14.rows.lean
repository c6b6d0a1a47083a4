theorem r_M_tellNumber_0 {w : ab_Wd} {d n nc ns : Nat} {I : Nat → Nat → Int32} {L : Nat → Nat → Int64} {res : ab_Re} (hT : w.1.stackTraces = false) (v1 : Int32) (hc : nc ≤ res.2.2.2.2.2.1) (hs : ns ≤ res.2.2.2.2.2.2)
    (h : ((v1 ≤ 9 → (((I mx 38) = (I mx 37) → (res = (.inl none, ((ab_up (ab_up I mx 39 (48 + (v1 - v1 / 10 * 10))) mx 38 ((I mx 38) + 1)), L, ab_RR, n, nc, ns)))) ∧ (¬ (I mx 38) = (I mx 37) → (res = (.inl none, ((ab_up I mx 38 ((I mx 38) + 1)), L, ab_RR, n, nc, ns)))))) ∧ (¬ v1 ≤ 9 → (∃ (I6 : Nat → Nat → Int32), ab_C w d mt_M_tellNumber [.ref mx, .int (v1 / 10)] (I, L, ab_RR, n, nc, ns) (.inl none, (I6, L, ab_RR, n, nc, ns)) ∧ (((I6 mx 38) = (I6 mx 37) → (res = (.inl none, ((ab_up (ab_up I6 mx 39 (48 + (v1 - v1 / 10 * 10))) mx 38 ((I6 mx 38) + 1)), L, ab_RR, n, nc, ns)))) ∧ (¬ (I6 mx 38) = (I6 mx 37) → (res = (.inl none, ((ab_up I6 mx 38 ((I6 mx 38) + 1)), L, ab_RR, n, nc, ns))))))))) : ab_E w (d + 1) mt_M_tellNumber 0 [.ref mx, .int v1] [] (I, L, ab_RR, n, nc, ns) res := by
  refine ab_iload_n (i := 1) d_M_tellNumber_0 rfl rfl ?_
  refine ab_bipush (v := 9) d_M_tellNumber_1 rfl ?_
  refine ab_icmp_le (tgt := 14) d_M_tellNumber_3 (by decide) (fun c1 => ?_) (fun c1 => ?_)
  · have h := h.1 c1
    refine ab_aload_n (i := 0) d_M_tellNumber_14 rfl rfl ?_
    refine ab_bipush (v := 48) d_M_tellNumber_15 rfl ?_
    refine ab_iload_n (i := 1) d_M_tellNumber_17 rfl rfl ?_
    refine ab_bipush (v := 10) d_M_tellNumber_18 rfl ?_
    refine ab_irem d_M_tellNumber_20 (by decide) ?_
    refine ab_iadd d_M_tellNumber_21 ?_
    by_cases c4 : (I mx 38) = (I mx 37)
    · have h := h.1 c4
      refine ab_callV (me2 := mt_M_tellByte) (b := mx) (as := [.int (48 + (v1 - v1 / 10 * 10))]) (st := []) (rv := none) (M2 := ((ab_up (ab_up I mx 39 (48 + (v1 - v1 / 10 * 10))) mx 38 ((I mx 38) + 1)), L, ab_RR, n, nc, ns)) d_M_tellNumber_22 ce_M_tellByte v_1853 v_1855 v_121 (by decide) rfl (Nat.le_of_ble_eq_true rfl) (cx_M_tellByte_1 (48 + (v1 - v1 / 10 * 10)) hT c4) (Nat.le_refl _) (Nat.le_refl _) hc hs (fun j h9 => by cases h9) (fun _ _ => rfl) ?_
      show ab_E w (d + 1) mt_M_tellNumber 25 [.ref mx, .int v1] [] ((ab_up (ab_up I mx 39 (48 + (v1 - v1 / 10 * 10))) mx 38 ((I mx 38) + 1)), L, ab_RR, n, nc, ns) res
      exact ab_vret d_M_tellNumber_25 rfl h
    · have h := h.2 c4
      refine ab_callV (me2 := mt_M_tellByte) (b := mx) (as := [.int (48 + (v1 - v1 / 10 * 10))]) (st := []) (rv := none) (M2 := ((ab_up I mx 38 ((I mx 38) + 1)), L, ab_RR, n, nc, ns)) d_M_tellNumber_22 ce_M_tellByte v_1853 v_1855 v_121 (by decide) rfl (Nat.le_of_ble_eq_true rfl) (cx_M_tellByte_0 (48 + (v1 - v1 / 10 * 10)) hT c4) (Nat.le_refl _) (Nat.le_refl _) hc hs (fun j h9 => by cases h9) (fun _ _ => rfl) ?_
      show ab_E w (d + 1) mt_M_tellNumber 25 [.ref mx, .int v1] [] ((ab_up I mx 38 ((I mx 38) + 1)), L, ab_RR, n, nc, ns) res
      exact ab_vret d_M_tellNumber_25 rfl h
  · have h := h.2 c1
    refine ab_aload_n (i := 0) d_M_tellNumber_6 rfl rfl ?_
    refine ab_iload_n (i := 1) d_M_tellNumber_7 rfl rfl ?_
    refine ab_bipush (v := 10) d_M_tellNumber_8 rfl ?_
    refine ab_idiv d_M_tellNumber_10 (by decide) ?_
    obtain ⟨I6, hC, h⟩ := h
    refine ab_callV (me2 := mt_M_tellNumber) (b := mx) (as := [.int (v1 / 10)]) (st := []) (rv := none) (M2 := (I6, L, ab_RR, n, nc, ns)) d_M_tellNumber_11 ce_M_tellNumber v_1857 v_1859 v_122 (by decide) rfl (Nat.le_of_ble_eq_true rfl) hC (Nat.le_refl _) (Nat.le_refl _) hc hs (fun j h9 => by cases h9) (fun _ _ => rfl) ?_
    show ab_E w (d + 1) mt_M_tellNumber 14 [.ref mx, .int v1] [] (I6, L, ab_RR, n, nc, ns) res
    refine ab_aload_n (i := 0) d_M_tellNumber_14 rfl rfl ?_
    refine ab_bipush (v := 48) d_M_tellNumber_15 rfl ?_
    refine ab_iload_n (i := 1) d_M_tellNumber_17 rfl rfl ?_
    refine ab_bipush (v := 10) d_M_tellNumber_18 rfl ?_
    refine ab_irem d_M_tellNumber_20 (by decide) ?_
    refine ab_iadd d_M_tellNumber_21 ?_
    by_cases c9 : (I6 mx 38) = (I6 mx 37)
    · have h := h.1 c9
      refine ab_callV (me2 := mt_M_tellByte) (b := mx) (as := [.int (48 + (v1 - v1 / 10 * 10))]) (st := []) (rv := none) (M2 := ((ab_up (ab_up I6 mx 39 (48 + (v1 - v1 / 10 * 10))) mx 38 ((I6 mx 38) + 1)), L, ab_RR, n, nc, ns)) d_M_tellNumber_22 ce_M_tellByte v_1853 v_1855 v_121 (by decide) rfl (Nat.le_of_ble_eq_true rfl) (cx_M_tellByte_1 (48 + (v1 - v1 / 10 * 10)) hT c9) (Nat.le_refl _) (Nat.le_refl _) hc hs (fun j h9 => by cases h9) (fun _ _ => rfl) ?_
      show ab_E w (d + 1) mt_M_tellNumber 25 [.ref mx, .int v1] [] ((ab_up (ab_up I6 mx 39 (48 + (v1 - v1 / 10 * 10))) mx 38 ((I6 mx 38) + 1)), L, ab_RR, n, nc, ns) res
      exact ab_vret d_M_tellNumber_25 rfl h
    · have h := h.2 c9
      refine ab_callV (me2 := mt_M_tellByte) (b := mx) (as := [.int (48 + (v1 - v1 / 10 * 10))]) (st := []) (rv := none) (M2 := ((ab_up I6 mx 38 ((I6 mx 38) + 1)), L, ab_RR, n, nc, ns)) d_M_tellNumber_22 ce_M_tellByte v_1853 v_1855 v_121 (by decide) rfl (Nat.le_of_ble_eq_true rfl) (cx_M_tellByte_0 (48 + (v1 - v1 / 10 * 10)) hT c9) (Nat.le_refl _) (Nat.le_refl _) hc hs (fun j h9 => by cases h9) (fun _ _ => rfl) ?_
      show ab_E w (d + 1) mt_M_tellNumber 25 [.ref mx, .int v1] [] ((ab_up I6 mx 38 ((I6 mx 38) + 1)), L, ab_RR, n, nc, ns) res
      exact ab_vret d_M_tellNumber_25 rfl h
theorem r_M_tellAll_0 {w : ab_Wd} {d n nc ns : Nat} {I : Nat → Nat → Int32} {L : Nat → Nat → Int64} {res : ab_Re} (hT : w.1.stackTraces = false)  (hc : nc ≤ res.2.2.2.2.2.1) (hs : ns ≤ res.2.2.2.2.2.2)
    (h : ∃ (I2 : Nat → Nat → Int32), ab_C w d mt_M_tellWord [.ref mx, .ref 224] ((ab_up I mx 38 0), L, ab_RR, n, nc, ns) (.inl none, (I2, L, ab_RR, n, nc, ns)) ∧ ∃ (I4 : Nat → Nat → Int32), ab_C w d mt_M_tellNumber [.ref mx, .int (I2 mx 2)] (I2, L, ab_RR, n, nc, ns) (.inl none, (I4, L, ab_RR, n, nc, ns)) ∧ (((I4 mx 38) = (I4 mx 37) → (ab_E w (d + 1) mt_M_tellAll 28 [.ref mx, .int 0] [] ((ab_up (ab_up I4 mx 39 59) mx 38 ((I4 mx 38) + 1)), L, ab_RR, n, nc, ns) res)) ∧ (¬ (I4 mx 38) = (I4 mx 37) → (ab_E w (d + 1) mt_M_tellAll 28 [.ref mx, .int 0] [] ((ab_up I4 mx 38 ((I4 mx 38) + 1)), L, ab_RR, n, nc, ns) res)))) : ab_E w (d + 1) mt_M_tellAll 0 [.ref mx, .null] [] (I, L, ab_RR, n, nc, ns) res := by
  refine ab_aload_n (i := 0) d_M_tellAll_0 rfl rfl ?_
  refine ab_iconst (v := 0) d_M_tellAll_1 rfl ?_
  refine ab_putI (ci := 11) (k := 38) d_M_tellAll_2 v_1406 rfl (by decide) (by decide) rfl (Or.inl rfl) rfl rfl ?_
  refine ab_aload_n (i := 0) d_M_tellAll_5 rfl rfl ?_
  refine ab_ldcSW (j := 3) (tx := "sites ") d_M_tellAll_6 (by decide) (by decide +kernel) ?_
  obtain ⟨I2, hC, h⟩ := h
  refine ab_callV (me2 := mt_M_tellWord) (b := mx) (as := [.ref 224]) (st := []) (rv := none) (M2 := (I2, L, ab_RR, n, nc, ns)) d_M_tellAll_9 ce_M_tellWord v_1849 v_1851 v_120 (by decide) rfl (Nat.le_of_ble_eq_true rfl) hC (Nat.le_refl _) (Nat.le_refl _) hc hs (fun j h9 => by cases h9) (fun _ _ => rfl) ?_
  show ab_E w (d + 1) mt_M_tellAll 12 [.ref mx, .null] [] (I2, L, ab_RR, n, nc, ns) res
  refine ab_aload_n (i := 0) d_M_tellAll_12 rfl rfl ?_
  refine ab_aload_n (i := 0) d_M_tellAll_13 rfl rfl ?_
  refine ab_getI (ci := 11) (k := 2) d_M_tellAll_14 v_1370 rfl (by decide) (by decide) rfl ?_
  obtain ⟨I4, hC, h⟩ := h
  refine ab_callV (me2 := mt_M_tellNumber) (b := mx) (as := [.int (I2 mx 2)]) (st := []) (rv := none) (M2 := (I4, L, ab_RR, n, nc, ns)) d_M_tellAll_17 ce_M_tellNumber v_1857 v_1859 v_122 (by decide) rfl (Nat.le_of_ble_eq_true rfl) hC (Nat.le_refl _) (Nat.le_refl _) hc hs (fun j h9 => by cases h9) (fun _ _ => rfl) ?_
  show ab_E w (d + 1) mt_M_tellAll 20 [.ref mx, .null] [] (I4, L, ab_RR, n, nc, ns) res
  refine ab_aload_n (i := 0) d_M_tellAll_20 rfl rfl ?_
  refine ab_bipush (v := 59) d_M_tellAll_21 rfl ?_
  by_cases c7 : (I4 mx 38) = (I4 mx 37)
  · have h := h.1 c7
    refine ab_callV (me2 := mt_M_tellByte) (b := mx) (as := [.int 59]) (st := []) (rv := none) (M2 := ((ab_up (ab_up I4 mx 39 59) mx 38 ((I4 mx 38) + 1)), L, ab_RR, n, nc, ns)) d_M_tellAll_23 ce_M_tellByte v_1853 v_1855 v_121 (by decide) rfl (Nat.le_of_ble_eq_true rfl) (cx_M_tellByte_1 59 hT c7) (Nat.le_refl _) (Nat.le_refl _) hc hs (fun j h9 => by cases h9) (fun _ _ => rfl) ?_
    show ab_E w (d + 1) mt_M_tellAll 26 [.ref mx, .null] [] ((ab_up (ab_up I4 mx 39 59) mx 38 ((I4 mx 38) + 1)), L, ab_RR, n, nc, ns) res
    refine ab_iconst (v := 0) d_M_tellAll_26 rfl ?_
    refine ab_istore_n (i := 1) d_M_tellAll_27 rfl (by decide) (Or.inr rfl) ?_
    exact h
  · have h := h.2 c7
    refine ab_callV (me2 := mt_M_tellByte) (b := mx) (as := [.int 59]) (st := []) (rv := none) (M2 := ((ab_up I4 mx 38 ((I4 mx 38) + 1)), L, ab_RR, n, nc, ns)) d_M_tellAll_23 ce_M_tellByte v_1853 v_1855 v_121 (by decide) rfl (Nat.le_of_ble_eq_true rfl) (cx_M_tellByte_0 59 hT c7) (Nat.le_refl _) (Nat.le_refl _) hc hs (fun j h9 => by cases h9) (fun _ _ => rfl) ?_
    show ab_E w (d + 1) mt_M_tellAll 26 [.ref mx, .null] [] ((ab_up I4 mx 38 ((I4 mx 38) + 1)), L, ab_RR, n, nc, ns) res
    refine ab_iconst (v := 0) d_M_tellAll_26 rfl ?_
    refine ab_istore_n (i := 1) d_M_tellAll_27 rfl (by decide) (Or.inr rfl) ?_
    exact h
theorem r_M_tellAll_28 {w : ab_Wd} {d n nc ns : Nat} {I : Nat → Nat → Int32} {L : Nat → Nat → Int64} {res : ab_Re} (hT : w.1.stackTraces = false) (v1 : Int32) (hc : nc ≤ res.2.2.2.2.2.1) (hs : ns ≤ res.2.2.2.2.2.2)
    (h : (((I mx_now 0) ≤ v1 → (ab_E w (d + 1) mt_M_tellAll 122 [.ref mx, .int 0] [] (I, L, ab_RR, n, nc, ns) res)) ∧ (¬ (I mx_now 0) ≤ v1 → (∃ (I4 : Nat → Nat → Int32), ab_C w d mt_M_tellWord [.ref mx, .ref 288] (I, L, ab_RR, n, nc, ns) (.inl none, (I4, L, ab_RR, n, nc, ns)) ∧ (vp_in (3 + v1) 399) ∧ ∃ (I7 : Nat → Nat → Int32), ab_C w d mt_M_tellNumber [.ref mx, .int (I4 mx_now (3 + v1).toNatClampNeg)] (I4, L, ab_RR, n, nc, ns) (.inl none, (I7, L, ab_RR, n, nc, ns)) ∧ (((I7 mx 38) = (I7 mx 37) → ((vp_in (27 + v1) 399) ∧ ∃ (I13 : Nat → Nat → Int32), ab_C w d mt_M_tellNumber [.ref mx, .int (I7 mx_now (27 + v1).toNatClampNeg)] ((ab_up (ab_up I7 mx 39 32) mx 38 ((I7 mx 38) + 1)), L, ab_RR, n, nc, ns) (.inl none, (I13, L, ab_RR, n, nc, ns)) ∧ (((I13 mx 38) = (I13 mx 37) → ((vp_in (51 + v1) 399) ∧ ∃ (I20 : Nat → Nat → Int32), ab_C w d mt_M_tellNumber [.ref mx, .int (I13 mx_now (51 + v1).toNatClampNeg)] ((ab_up (ab_up I13 mx 39 32) mx 38 ((I13 mx 38) + 1)), L, ab_RR, n, nc, ns) (.inl none, (I20, L, ab_RR, n, nc, ns)) ∧ (((I20 mx 38) = (I20 mx 37) → ((vp_in (75 + v1) 399) ∧ ∃ (I26 : Nat → Nat → Int32), ab_C w d mt_M_tellNumber [.ref mx, .int (I20 mx_now (75 + v1).toNatClampNeg)] ((ab_up (ab_up I20 mx 39 32) mx 38 ((I20 mx 38) + 1)), L, ab_RR, n, nc, ns) (.inl none, (I26, L, ab_RR, n, nc, ns)) ∧ (((I26 mx 38) = (I26 mx 37) → (ab_E w (d + 1) mt_M_tellAll 28 [.ref mx, .int (v1 + 1)] [] ((ab_up (ab_up I26 mx 39 59) mx 38 ((I26 mx 38) + 1)), L, ab_RR, n, nc, ns) res)) ∧ (¬ (I26 mx 38) = (I26 mx 37) → (ab_E w (d + 1) mt_M_tellAll 28 [.ref mx, .int (v1 + 1)] [] ((ab_up I26 mx 38 ((I26 mx 38) + 1)), L, ab_RR, n, nc, ns) res))))) ∧ (¬ (I20 mx 38) = (I20 mx 37) → ((vp_in (75 + v1) 399) ∧ ∃ (I32 : Nat → Nat → Int32), ab_C w d mt_M_tellNumber [.ref mx, .int (I20 mx_now (75 + v1).toNatClampNeg)] ((ab_up I20 mx 38 ((I20 mx 38) + 1)), L, ab_RR, n, nc, ns) (.inl none, (I32, L, ab_RR, n, nc, ns)) ∧ (((I32 mx 38) = (I32 mx 37) → (ab_E w (d + 1) mt_M_tellAll 28 [.ref mx, .int (v1 + 1)] [] ((ab_up (ab_up I32 mx 39 59) mx 38 ((I32 mx 38) + 1)), L, ab_RR, n, nc, ns) res)) ∧ (¬ (I32 mx 38) = (I32 mx 37) → (ab_E w (d + 1) mt_M_tellAll 28 [.ref mx, .int (v1 + 1)] [] ((ab_up I32 mx 38 ((I32 mx 38) + 1)), L, ab_RR, n, nc, ns) res)))))))) ∧ (¬ (I13 mx 38) = (I13 mx 37) → ((vp_in (51 + v1) 399) ∧ ∃ (I39 : Nat → Nat → Int32), ab_C w d mt_M_tellNumber [.ref mx, .int (I13 mx_now (51 + v1).toNatClampNeg)] ((ab_up I13 mx 38 ((I13 mx 38) + 1)), L, ab_RR, n, nc, ns) (.inl none, (I39, L, ab_RR, n, nc, ns)) ∧ (((I39 mx 38) = (I39 mx 37) → ((vp_in (75 + v1) 399) ∧ ∃ (I45 : Nat → Nat → Int32), ab_C w d mt_M_tellNumber [.ref mx, .int (I39 mx_now (75 + v1).toNatClampNeg)] ((ab_up (ab_up I39 mx 39 32) mx 38 ((I39 mx 38) + 1)), L, ab_RR, n, nc, ns) (.inl none, (I45, L, ab_RR, n, nc, ns)) ∧ (((I45 mx 38) = (I45 mx 37) → (ab_E w (d + 1) mt_M_tellAll 28 [.ref mx, .int (v1 + 1)] [] ((ab_up (ab_up I45 mx 39 59) mx 38 ((I45 mx 38) + 1)), L, ab_RR, n, nc, ns) res)) ∧ (¬ (I45 mx 38) = (I45 mx 37) → (ab_E w (d + 1) mt_M_tellAll 28 [.ref mx, .int (v1 + 1)] [] ((ab_up I45 mx 38 ((I45 mx 38) + 1)), L, ab_RR, n, nc, ns) res))))) ∧ (¬ (I39 mx 38) = (I39 mx 37) → ((vp_in (75 + v1) 399) ∧ ∃ (I51 : Nat → Nat → Int32), ab_C w d mt_M_tellNumber [.ref mx, .int (I39 mx_now (75 + v1).toNatClampNeg)] ((ab_up I39 mx 38 ((I39 mx 38) + 1)), L, ab_RR, n, nc, ns) (.inl none, (I51, L, ab_RR, n, nc, ns)) ∧ (((I51 mx 38) = (I51 mx 37) → (ab_E w (d + 1) mt_M_tellAll 28 [.ref mx, .int (v1 + 1)] [] ((ab_up (ab_up I51 mx 39 59) mx 38 ((I51 mx 38) + 1)), L, ab_RR, n, nc, ns) res)) ∧ (¬ (I51 mx 38) = (I51 mx 37) → (ab_E w (d + 1) mt_M_tellAll 28 [.ref mx, .int (v1 + 1)] [] ((ab_up I51 mx 38 ((I51 mx 38) + 1)), L, ab_RR, n, nc, ns) res))))))))))) ∧ (¬ (I7 mx 38) = (I7 mx 37) → ((vp_in (27 + v1) 399) ∧ ∃ (I57 : Nat → Nat → Int32), ab_C w d mt_M_tellNumber [.ref mx, .int (I7 mx_now (27 + v1).toNatClampNeg)] ((ab_up I7 mx 38 ((I7 mx 38) + 1)), L, ab_RR, n, nc, ns) (.inl none, (I57, L, ab_RR, n, nc, ns)) ∧ (((I57 mx 38) = (I57 mx 37) → ((vp_in (51 + v1) 399) ∧ ∃ (I64 : Nat → Nat → Int32), ab_C w d mt_M_tellNumber [.ref mx, .int (I57 mx_now (51 + v1).toNatClampNeg)] ((ab_up (ab_up I57 mx 39 32) mx 38 ((I57 mx 38) + 1)), L, ab_RR, n, nc, ns) (.inl none, (I64, L, ab_RR, n, nc, ns)) ∧ (((I64 mx 38) = (I64 mx 37) → ((vp_in (75 + v1) 399) ∧ ∃ (I70 : Nat → Nat → Int32), ab_C w d mt_M_tellNumber [.ref mx, .int (I64 mx_now (75 + v1).toNatClampNeg)] ((ab_up (ab_up I64 mx 39 32) mx 38 ((I64 mx 38) + 1)), L, ab_RR, n, nc, ns) (.inl none, (I70, L, ab_RR, n, nc, ns)) ∧ (((I70 mx 38) = (I70 mx 37) → (ab_E w (d + 1) mt_M_tellAll 28 [.ref mx, .int (v1 + 1)] [] ((ab_up (ab_up I70 mx 39 59) mx 38 ((I70 mx 38) + 1)), L, ab_RR, n, nc, ns) res)) ∧ (¬ (I70 mx 38) = (I70 mx 37) → (ab_E w (d + 1) mt_M_tellAll 28 [.ref mx, .int (v1 + 1)] [] ((ab_up I70 mx 38 ((I70 mx 38) + 1)), L, ab_RR, n, nc, ns) res))))) ∧ (¬ (I64 mx 38) = (I64 mx 37) → ((vp_in (75 + v1) 399) ∧ ∃ (I76 : Nat → Nat → Int32), ab_C w d mt_M_tellNumber [.ref mx, .int (I64 mx_now (75 + v1).toNatClampNeg)] ((ab_up I64 mx 38 ((I64 mx 38) + 1)), L, ab_RR, n, nc, ns) (.inl none, (I76, L, ab_RR, n, nc, ns)) ∧ (((I76 mx 38) = (I76 mx 37) → (ab_E w (d + 1) mt_M_tellAll 28 [.ref mx, .int (v1 + 1)] [] ((ab_up (ab_up I76 mx 39 59) mx 38 ((I76 mx 38) + 1)), L, ab_RR, n, nc, ns) res)) ∧ (¬ (I76 mx 38) = (I76 mx 37) → (ab_E w (d + 1) mt_M_tellAll 28 [.ref mx, .int (v1 + 1)] [] ((ab_up I76 mx 38 ((I76 mx 38) + 1)), L, ab_RR, n, nc, ns) res)))))))) ∧ (¬ (I57 mx 38) = (I57 mx 37) → ((vp_in (51 + v1) 399) ∧ ∃ (I83 : Nat → Nat → Int32), ab_C w d mt_M_tellNumber [.ref mx, .int (I57 mx_now (51 + v1).toNatClampNeg)] ((ab_up I57 mx 38 ((I57 mx 38) + 1)), L, ab_RR, n, nc, ns) (.inl none, (I83, L, ab_RR, n, nc, ns)) ∧ (((I83 mx 38) = (I83 mx 37) → ((vp_in (75 + v1) 399) ∧ ∃ (I89 : Nat → Nat → Int32), ab_C w d mt_M_tellNumber [.ref mx, .int (I83 mx_now (75 + v1).toNatClampNeg)] ((ab_up (ab_up I83 mx 39 32) mx 38 ((I83 mx 38) + 1)), L, ab_RR, n, nc, ns) (.inl none, (I89, L, ab_RR, n, nc, ns)) ∧ (((I89 mx 38) = (I89 mx 37) → (ab_E w (d + 1) mt_M_tellAll 28 [.ref mx, .int (v1 + 1)] [] ((ab_up (ab_up I89 mx 39 59) mx 38 ((I89 mx 38) + 1)), L, ab_RR, n, nc, ns) res)) ∧ (¬ (I89 mx 38) = (I89 mx 37) → (ab_E w (d + 1) mt_M_tellAll 28 [.ref mx, .int (v1 + 1)] [] ((ab_up I89 mx 38 ((I89 mx 38) + 1)), L, ab_RR, n, nc, ns) res))))) ∧ (¬ (I83 mx 38) = (I83 mx 37) → ((vp_in (75 + v1) 399) ∧ ∃ (I95 : Nat → Nat → Int32), ab_C w d mt_M_tellNumber [.ref mx, .int (I83 mx_now (75 + v1).toNatClampNeg)] ((ab_up I83 mx 38 ((I83 mx 38) + 1)), L, ab_RR, n, nc, ns) (.inl none, (I95, L, ab_RR, n, nc, ns)) ∧ (((I95 mx 38) = (I95 mx 37) → (ab_E w (d + 1) mt_M_tellAll 28 [.ref mx, .int (v1 + 1)] [] ((ab_up (ab_up I95 mx 39 59) mx 38 ((I95 mx 38) + 1)), L, ab_RR, n, nc, ns) res)) ∧ (¬ (I95 mx 38) = (I95 mx 37) → (ab_E w (d + 1) mt_M_tellAll 28 [.ref mx, .int (v1 + 1)] [] ((ab_up I95 mx 38 ((I95 mx 38) + 1)), L, ab_RR, n, nc, ns) res)))))))))))))))) : ab_E w (d + 1) mt_M_tellAll 28 [.ref mx, .int v1] [] (I, L, ab_RR, n, nc, ns) res := by
  refine ab_iload_n (i := 1) d_M_tellAll_28 rfl rfl ?_
  refine ab_aload_n (i := 0) d_M_tellAll_29 rfl rfl ?_
  refine ab_callV (me2 := mt_M_many) (b := mx) (as := []) (st := [.int v1]) (rv := (some (.int (I mx_now 0)))) (M2 := (I, L, ab_RR, n, nc, ns)) d_M_tellAll_30 ce_M_many v_1635 v_1637 v_79 (by decide) rfl (Nat.le_of_ble_eq_true rfl) (cx_M_many_0  hT (show (vp_in 0 399) from by unfold vp_in; decide)) (Nat.le_refl _) (Nat.le_refl _) hc hs (fun j h9 => by cases h9) (fun _ _ => rfl) ?_
  show ab_E w (d + 1) mt_M_tellAll 33 [.ref mx, .int v1] [.int (I mx_now 0), .int v1] (I, L, ab_RR, n, nc, ns) res
  refine ab_icmp_ge (tgt := 120) d_M_tellAll_33 (by decide) (fun c2 => ?_) (fun c2 => ?_)
  · have h := h.1 c2
    refine ab_iconst (v := 0) d_M_tellAll_120 rfl ?_
    refine ab_istore_n (i := 1) d_M_tellAll_121 rfl (by decide) (Or.inr rfl) ?_
    exact h
  · have h := h.2 c2
    refine ab_aload_n (i := 0) d_M_tellAll_36 rfl rfl ?_
    refine ab_ldcSW (j := 4) (tx := "cable ") d_M_tellAll_37 (by decide) (by decide +kernel) ?_
    obtain ⟨I4, hC, h⟩ := h
    refine ab_callV (me2 := mt_M_tellWord) (b := mx) (as := [.ref 288]) (st := []) (rv := none) (M2 := (I4, L, ab_RR, n, nc, ns)) d_M_tellAll_40 ce_M_tellWord v_1849 v_1851 v_120 (by decide) rfl (Nat.le_of_ble_eq_true rfl) hC (Nat.le_refl _) (Nat.le_refl _) hc hs (fun j h9 => by cases h9) (fun _ _ => rfl) ?_
    show ab_E w (d + 1) mt_M_tellAll 43 [.ref mx, .int v1] [] (I4, L, ab_RR, n, nc, ns) res
    refine ab_aload_n (i := 0) d_M_tellAll_43 rfl rfl ?_
    refine ab_aload_n (i := 0) d_M_tellAll_44 rfl rfl ?_
    refine ab_getR (ci := 11) (k := 4) (j := mx_now) d_M_tellAll_45 v_1372 rfl (by decide) (by decide) rfl r_mx_4 ?_
    refine ab_iconst (v := 3) d_M_tellAll_48 rfl ?_
    refine ab_iload_n (i := 1) d_M_tellAll_49 rfl rfl ?_
    refine ab_iadd d_M_tellAll_50 ?_
    have g5 := h.1; have h := h.2
    refine ab_iald d_M_tellAll_51 rfl rfl g5 ?_
    obtain ⟨I7, hC, h⟩ := h
    refine ab_callV (me2 := mt_M_tellNumber) (b := mx) (as := [.int (I4 mx_now (3 + v1).toNatClampNeg)]) (st := []) (rv := none) (M2 := (I7, L, ab_RR, n, nc, ns)) d_M_tellAll_52 ce_M_tellNumber v_1857 v_1859 v_122 (by decide) rfl (Nat.le_of_ble_eq_true rfl) hC (Nat.le_refl _) (Nat.le_refl _) hc hs (fun j h9 => by cases h9) (fun _ _ => rfl) ?_
    show ab_E w (d + 1) mt_M_tellAll 55 [.ref mx, .int v1] [] (I7, L, ab_RR, n, nc, ns) res
    refine ab_aload_n (i := 0) d_M_tellAll_55 rfl rfl ?_
    refine ab_bipush (v := 32) d_M_tellAll_56 rfl ?_
    by_cases c10 : (I7 mx 38) = (I7 mx 37)
    · have h := h.1 c10
      refine ab_callV (me2 := mt_M_tellByte) (b := mx) (as := [.int 32]) (st := []) (rv := none) (M2 := ((ab_up (ab_up I7 mx 39 32) mx 38 ((I7 mx 38) + 1)), L, ab_RR, n, nc, ns)) d_M_tellAll_58 ce_M_tellByte v_1853 v_1855 v_121 (by decide) rfl (Nat.le_of_ble_eq_true rfl) (cx_M_tellByte_1 32 hT c10) (Nat.le_refl _) (Nat.le_refl _) hc hs (fun j h9 => by cases h9) (fun _ _ => rfl) ?_
      show ab_E w (d + 1) mt_M_tellAll 61 [.ref mx, .int v1] [] ((ab_up (ab_up I7 mx 39 32) mx 38 ((I7 mx 38) + 1)), L, ab_RR, n, nc, ns) res
      refine ab_aload_n (i := 0) d_M_tellAll_61 rfl rfl ?_
      refine ab_aload_n (i := 0) d_M_tellAll_62 rfl rfl ?_
      refine ab_getR (ci := 11) (k := 4) (j := mx_now) d_M_tellAll_63 v_1372 rfl (by decide) (by decide) rfl r_mx_4 ?_
      refine ab_bipush (v := 27) d_M_tellAll_66 rfl ?_
      refine ab_iload_n (i := 1) d_M_tellAll_68 rfl rfl ?_
      refine ab_iadd d_M_tellAll_69 ?_
      have g11 := h.1; have h := h.2
      refine ab_iald d_M_tellAll_70 rfl rfl g11 ?_
      obtain ⟨I13, hC, h⟩ := h
      refine ab_callV (me2 := mt_M_tellNumber) (b := mx) (as := [.int (I7 mx_now (27 + v1).toNatClampNeg)]) (st := []) (rv := none) (M2 := (I13, L, ab_RR, n, nc, ns)) d_M_tellAll_71 ce_M_tellNumber v_1857 v_1859 v_122 (by decide) rfl (Nat.le_of_ble_eq_true rfl) hC (Nat.le_refl _) (Nat.le_refl _) hc hs (fun j h9 => by cases h9) (fun _ _ => rfl) ?_
      show ab_E w (d + 1) mt_M_tellAll 74 [.ref mx, .int v1] [] (I13, L, ab_RR, n, nc, ns) res
      refine ab_aload_n (i := 0) d_M_tellAll_74 rfl rfl ?_
      refine ab_bipush (v := 32) d_M_tellAll_75 rfl ?_
      by_cases c16 : (I13 mx 38) = (I13 mx 37)
      · have h := h.1 c16
        refine ab_callV (me2 := mt_M_tellByte) (b := mx) (as := [.int 32]) (st := []) (rv := none) (M2 := ((ab_up (ab_up I13 mx 39 32) mx 38 ((I13 mx 38) + 1)), L, ab_RR, n, nc, ns)) d_M_tellAll_77 ce_M_tellByte v_1853 v_1855 v_121 (by decide) rfl (Nat.le_of_ble_eq_true rfl) (cx_M_tellByte_1 32 hT c16) (Nat.le_refl _) (Nat.le_refl _) hc hs (fun j h9 => by cases h9) (fun _ _ => rfl) ?_
        show ab_E w (d + 1) mt_M_tellAll 80 [.ref mx, .int v1] [] ((ab_up (ab_up I13 mx 39 32) mx 38 ((I13 mx 38) + 1)), L, ab_RR, n, nc, ns) res
        refine ab_aload_n (i := 0) d_M_tellAll_80 rfl rfl ?_
        refine ab_aload_n (i := 0) d_M_tellAll_81 rfl rfl ?_
        refine ab_iload_n (i := 1) d_M_tellAll_82 rfl rfl ?_
        have g18 := h.1; have h := h.2
        refine ab_callV (me2 := mt_M_priceOf) (b := mx) (as := [.int v1]) (st := [.ref mx]) (rv := (some (.int (I13 mx_now (51 + v1).toNatClampNeg)))) (M2 := ((ab_up (ab_up I13 mx 39 32) mx 38 ((I13 mx 38) + 1)), L, ab_RR, n, nc, ns)) d_M_tellAll_83 ce_M_priceOf v_1654 v_1656 v_83 (by decide) rfl (Nat.le_of_ble_eq_true rfl) (cx_M_priceOf_0 v1 hT g18) (Nat.le_refl _) (Nat.le_refl _) hc hs (fun j h9 => by cases h9) (fun _ _ => rfl) ?_
        show ab_E w (d + 1) mt_M_tellAll 86 [.ref mx, .int v1] [.int (I13 mx_now (51 + v1).toNatClampNeg), .ref mx] ((ab_up (ab_up I13 mx 39 32) mx 38 ((I13 mx 38) + 1)), L, ab_RR, n, nc, ns) res
        obtain ⟨I20, hC, h⟩ := h
        refine ab_callV (me2 := mt_M_tellNumber) (b := mx) (as := [.int (I13 mx_now (51 + v1).toNatClampNeg)]) (st := []) (rv := none) (M2 := (I20, L, ab_RR, n, nc, ns)) d_M_tellAll_86 ce_M_tellNumber v_1857 v_1859 v_122 (by decide) rfl (Nat.le_of_ble_eq_true rfl) hC (Nat.le_refl _) (Nat.le_refl _) hc hs (fun j h9 => by cases h9) (fun _ _ => rfl) ?_
        show ab_E w (d + 1) mt_M_tellAll 89 [.ref mx, .int v1] [] (I20, L, ab_RR, n, nc, ns) res
        refine ab_aload_n (i := 0) d_M_tellAll_89 rfl rfl ?_
        refine ab_bipush (v := 32) d_M_tellAll_90 rfl ?_
        by_cases c23 : (I20 mx 38) = (I20 mx 37)
        · have h := h.1 c23
          refine ab_callV (me2 := mt_M_tellByte) (b := mx) (as := [.int 32]) (st := []) (rv := none) (M2 := ((ab_up (ab_up I20 mx 39 32) mx 38 ((I20 mx 38) + 1)), L, ab_RR, n, nc, ns)) d_M_tellAll_92 ce_M_tellByte v_1853 v_1855 v_121 (by decide) rfl (Nat.le_of_ble_eq_true rfl) (cx_M_tellByte_1 32 hT c23) (Nat.le_refl _) (Nat.le_refl _) hc hs (fun j h9 => by cases h9) (fun _ _ => rfl) ?_
          show ab_E w (d + 1) mt_M_tellAll 95 [.ref mx, .int v1] [] ((ab_up (ab_up I20 mx 39 32) mx 38 ((I20 mx 38) + 1)), L, ab_RR, n, nc, ns) res
          refine ab_aload_n (i := 0) d_M_tellAll_95 rfl rfl ?_
          refine ab_aload_n (i := 0) d_M_tellAll_96 rfl rfl ?_
          refine ab_getR (ci := 11) (k := 4) (j := mx_now) d_M_tellAll_97 v_1372 rfl (by decide) (by decide) rfl r_mx_4 ?_
          refine ab_bipush (v := 75) d_M_tellAll_100 rfl ?_
          refine ab_iload_n (i := 1) d_M_tellAll_102 rfl rfl ?_
          refine ab_iadd d_M_tellAll_103 ?_
          have g24 := h.1; have h := h.2
          refine ab_iald d_M_tellAll_104 rfl rfl g24 ?_
          obtain ⟨I26, hC, h⟩ := h
          refine ab_callV (me2 := mt_M_tellNumber) (b := mx) (as := [.int (I20 mx_now (75 + v1).toNatClampNeg)]) (st := []) (rv := none) (M2 := (I26, L, ab_RR, n, nc, ns)) d_M_tellAll_105 ce_M_tellNumber v_1857 v_1859 v_122 (by decide) rfl (Nat.le_of_ble_eq_true rfl) hC (Nat.le_refl _) (Nat.le_refl _) hc hs (fun j h9 => by cases h9) (fun _ _ => rfl) ?_
          show ab_E w (d + 1) mt_M_tellAll 108 [.ref mx, .int v1] [] (I26, L, ab_RR, n, nc, ns) res
          refine ab_aload_n (i := 0) d_M_tellAll_108 rfl rfl ?_
          refine ab_bipush (v := 59) d_M_tellAll_109 rfl ?_
          by_cases c29 : (I26 mx 38) = (I26 mx 37)
          · have h := h.1 c29
            refine ab_callV (me2 := mt_M_tellByte) (b := mx) (as := [.int 59]) (st := []) (rv := none) (M2 := ((ab_up (ab_up I26 mx 39 59) mx 38 ((I26 mx 38) + 1)), L, ab_RR, n, nc, ns)) d_M_tellAll_111 ce_M_tellByte v_1853 v_1855 v_121 (by decide) rfl (Nat.le_of_ble_eq_true rfl) (cx_M_tellByte_1 59 hT c29) (Nat.le_refl _) (Nat.le_refl _) hc hs (fun j h9 => by cases h9) (fun _ _ => rfl) ?_
            show ab_E w (d + 1) mt_M_tellAll 114 [.ref mx, .int v1] [] ((ab_up (ab_up I26 mx 39 59) mx 38 ((I26 mx 38) + 1)), L, ab_RR, n, nc, ns) res
            refine ab_iinc (i := 1) (v := (v1 + 1)) d_M_tellAll_114 rfl rfl (by decide) (Or.inr rfl) ?_
            refine ab_goto (tgt := 28) d_M_tellAll_117 (by decide) ?_
            exact h
          · have h := h.2 c29
            refine ab_callV (me2 := mt_M_tellByte) (b := mx) (as := [.int 59]) (st := []) (rv := none) (M2 := ((ab_up I26 mx 38 ((I26 mx 38) + 1)), L, ab_RR, n, nc, ns)) d_M_tellAll_111 ce_M_tellByte v_1853 v_1855 v_121 (by decide) rfl (Nat.le_of_ble_eq_true rfl) (cx_M_tellByte_0 59 hT c29) (Nat.le_refl _) (Nat.le_refl _) hc hs (fun j h9 => by cases h9) (fun _ _ => rfl) ?_
            show ab_E w (d + 1) mt_M_tellAll 114 [.ref mx, .int v1] [] ((ab_up I26 mx 38 ((I26 mx 38) + 1)), L, ab_RR, n, nc, ns) res
            refine ab_iinc (i := 1) (v := (v1 + 1)) d_M_tellAll_114 rfl rfl (by decide) (Or.inr rfl) ?_
            refine ab_goto (tgt := 28) d_M_tellAll_117 (by decide) ?_
            exact h
        · have h := h.2 c23
          refine ab_callV (me2 := mt_M_tellByte) (b := mx) (as := [.int 32]) (st := []) (rv := none) (M2 := ((ab_up I20 mx 38 ((I20 mx 38) + 1)), L, ab_RR, n, nc, ns)) d_M_tellAll_92 ce_M_tellByte v_1853 v_1855 v_121 (by decide) rfl (Nat.le_of_ble_eq_true rfl) (cx_M_tellByte_0 32 hT c23) (Nat.le_refl _) (Nat.le_refl _) hc hs (fun j h9 => by cases h9) (fun _ _ => rfl) ?_
          show ab_E w (d + 1) mt_M_tellAll 95 [.ref mx, .int v1] [] ((ab_up I20 mx 38 ((I20 mx 38) + 1)), L, ab_RR, n, nc, ns) res
          refine ab_aload_n (i := 0) d_M_tellAll_95 rfl rfl ?_
          refine ab_aload_n (i := 0) d_M_tellAll_96 rfl rfl ?_
          refine ab_getR (ci := 11) (k := 4) (j := mx_now) d_M_tellAll_97 v_1372 rfl (by decide) (by decide) rfl r_mx_4 ?_
          refine ab_bipush (v := 75) d_M_tellAll_100 rfl ?_
          refine ab_iload_n (i := 1) d_M_tellAll_102 rfl rfl ?_
          refine ab_iadd d_M_tellAll_103 ?_
          have g30 := h.1; have h := h.2
          refine ab_iald d_M_tellAll_104 rfl rfl g30 ?_
          obtain ⟨I32, hC, h⟩ := h
          refine ab_callV (me2 := mt_M_tellNumber) (b := mx) (as := [.int (I20 mx_now (75 + v1).toNatClampNeg)]) (st := []) (rv := none) (M2 := (I32, L, ab_RR, n, nc, ns)) d_M_tellAll_105 ce_M_tellNumber v_1857 v_1859 v_122 (by decide) rfl (Nat.le_of_ble_eq_true rfl) hC (Nat.le_refl _) (Nat.le_refl _) hc hs (fun j h9 => by cases h9) (fun _ _ => rfl) ?_
          show ab_E w (d + 1) mt_M_tellAll 108 [.ref mx, .int v1] [] (I32, L, ab_RR, n, nc, ns) res
          refine ab_aload_n (i := 0) d_M_tellAll_108 rfl rfl ?_
          refine ab_bipush (v := 59) d_M_tellAll_109 rfl ?_
          by_cases c35 : (I32 mx 38) = (I32 mx 37)
          · have h := h.1 c35
            refine ab_callV (me2 := mt_M_tellByte) (b := mx) (as := [.int 59]) (st := []) (rv := none) (M2 := ((ab_up (ab_up I32 mx 39 59) mx 38 ((I32 mx 38) + 1)), L, ab_RR, n, nc, ns)) d_M_tellAll_111 ce_M_tellByte v_1853 v_1855 v_121 (by decide) rfl (Nat.le_of_ble_eq_true rfl) (cx_M_tellByte_1 59 hT c35) (Nat.le_refl _) (Nat.le_refl _) hc hs (fun j h9 => by cases h9) (fun _ _ => rfl) ?_
            show ab_E w (d + 1) mt_M_tellAll 114 [.ref mx, .int v1] [] ((ab_up (ab_up I32 mx 39 59) mx 38 ((I32 mx 38) + 1)), L, ab_RR, n, nc, ns) res
            refine ab_iinc (i := 1) (v := (v1 + 1)) d_M_tellAll_114 rfl rfl (by decide) (Or.inr rfl) ?_
            refine ab_goto (tgt := 28) d_M_tellAll_117 (by decide) ?_
            exact h
          · have h := h.2 c35
            refine ab_callV (me2 := mt_M_tellByte) (b := mx) (as := [.int 59]) (st := []) (rv := none) (M2 := ((ab_up I32 mx 38 ((I32 mx 38) + 1)), L, ab_RR, n, nc, ns)) d_M_tellAll_111 ce_M_tellByte v_1853 v_1855 v_121 (by decide) rfl (Nat.le_of_ble_eq_true rfl) (cx_M_tellByte_0 59 hT c35) (Nat.le_refl _) (Nat.le_refl _) hc hs (fun j h9 => by cases h9) (fun _ _ => rfl) ?_
            show ab_E w (d + 1) mt_M_tellAll 114 [.ref mx, .int v1] [] ((ab_up I32 mx 38 ((I32 mx 38) + 1)), L, ab_RR, n, nc, ns) res
            refine ab_iinc (i := 1) (v := (v1 + 1)) d_M_tellAll_114 rfl rfl (by decide) (Or.inr rfl) ?_
            refine ab_goto (tgt := 28) d_M_tellAll_117 (by decide) ?_
            exact h
      · have h := h.2 c16
        refine ab_callV (me2 := mt_M_tellByte) (b := mx) (as := [.int 32]) (st := []) (rv := none) (M2 := ((ab_up I13 mx 38 ((I13 mx 38) + 1)), L, ab_RR, n, nc, ns)) d_M_tellAll_77 ce_M_tellByte v_1853 v_1855 v_121 (by decide) rfl (Nat.le_of_ble_eq_true rfl) (cx_M_tellByte_0 32 hT c16) (Nat.le_refl _) (Nat.le_refl _) hc hs (fun j h9 => by cases h9) (fun _ _ => rfl) ?_
        show ab_E w (d + 1) mt_M_tellAll 80 [.ref mx, .int v1] [] ((ab_up I13 mx 38 ((I13 mx 38) + 1)), L, ab_RR, n, nc, ns) res
        refine ab_aload_n (i := 0) d_M_tellAll_80 rfl rfl ?_
        refine ab_aload_n (i := 0) d_M_tellAll_81 rfl rfl ?_
        refine ab_iload_n (i := 1) d_M_tellAll_82 rfl rfl ?_
        have g37 := h.1; have h := h.2
        refine ab_callV (me2 := mt_M_priceOf) (b := mx) (as := [.int v1]) (st := [.ref mx]) (rv := (some (.int (I13 mx_now (51 + v1).toNatClampNeg)))) (M2 := ((ab_up I13 mx 38 ((I13 mx 38) + 1)), L, ab_RR, n, nc, ns)) d_M_tellAll_83 ce_M_priceOf v_1654 v_1656 v_83 (by decide) rfl (Nat.le_of_ble_eq_true rfl) (cx_M_priceOf_0 v1 hT g37) (Nat.le_refl _) (Nat.le_refl _) hc hs (fun j h9 => by cases h9) (fun _ _ => rfl) ?_
        show ab_E w (d + 1) mt_M_tellAll 86 [.ref mx, .int v1] [.int (I13 mx_now (51 + v1).toNatClampNeg), .ref mx] ((ab_up I13 mx 38 ((I13 mx 38) + 1)), L, ab_RR, n, nc, ns) res
        obtain ⟨I39, hC, h⟩ := h
        refine ab_callV (me2 := mt_M_tellNumber) (b := mx) (as := [.int (I13 mx_now (51 + v1).toNatClampNeg)]) (st := []) (rv := none) (M2 := (I39, L, ab_RR, n, nc, ns)) d_M_tellAll_86 ce_M_tellNumber v_1857 v_1859 v_122 (by decide) rfl (Nat.le_of_ble_eq_true rfl) hC (Nat.le_refl _) (Nat.le_refl _) hc hs (fun j h9 => by cases h9) (fun _ _ => rfl) ?_
        show ab_E w (d + 1) mt_M_tellAll 89 [.ref mx, .int v1] [] (I39, L, ab_RR, n, nc, ns) res
        refine ab_aload_n (i := 0) d_M_tellAll_89 rfl rfl ?_
        refine ab_bipush (v := 32) d_M_tellAll_90 rfl ?_
        by_cases c42 : (I39 mx 38) = (I39 mx 37)
        · have h := h.1 c42
          refine ab_callV (me2 := mt_M_tellByte) (b := mx) (as := [.int 32]) (st := []) (rv := none) (M2 := ((ab_up (ab_up I39 mx 39 32) mx 38 ((I39 mx 38) + 1)), L, ab_RR, n, nc, ns)) d_M_tellAll_92 ce_M_tellByte v_1853 v_1855 v_121 (by decide) rfl (Nat.le_of_ble_eq_true rfl) (cx_M_tellByte_1 32 hT c42) (Nat.le_refl _) (Nat.le_refl _) hc hs (fun j h9 => by cases h9) (fun _ _ => rfl) ?_
          show ab_E w (d + 1) mt_M_tellAll 95 [.ref mx, .int v1] [] ((ab_up (ab_up I39 mx 39 32) mx 38 ((I39 mx 38) + 1)), L, ab_RR, n, nc, ns) res
          refine ab_aload_n (i := 0) d_M_tellAll_95 rfl rfl ?_
          refine ab_aload_n (i := 0) d_M_tellAll_96 rfl rfl ?_
          refine ab_getR (ci := 11) (k := 4) (j := mx_now) d_M_tellAll_97 v_1372 rfl (by decide) (by decide) rfl r_mx_4 ?_
          refine ab_bipush (v := 75) d_M_tellAll_100 rfl ?_
          refine ab_iload_n (i := 1) d_M_tellAll_102 rfl rfl ?_
          refine ab_iadd d_M_tellAll_103 ?_
          have g43 := h.1; have h := h.2
          refine ab_iald d_M_tellAll_104 rfl rfl g43 ?_
          obtain ⟨I45, hC, h⟩ := h
          refine ab_callV (me2 := mt_M_tellNumber) (b := mx) (as := [.int (I39 mx_now (75 + v1).toNatClampNeg)]) (st := []) (rv := none) (M2 := (I45, L, ab_RR, n, nc, ns)) d_M_tellAll_105 ce_M_tellNumber v_1857 v_1859 v_122 (by decide) rfl (Nat.le_of_ble_eq_true rfl) hC (Nat.le_refl _) (Nat.le_refl _) hc hs (fun j h9 => by cases h9) (fun _ _ => rfl) ?_
          show ab_E w (d + 1) mt_M_tellAll 108 [.ref mx, .int v1] [] (I45, L, ab_RR, n, nc, ns) res
          refine ab_aload_n (i := 0) d_M_tellAll_108 rfl rfl ?_
          refine ab_bipush (v := 59) d_M_tellAll_109 rfl ?_
          by_cases c48 : (I45 mx 38) = (I45 mx 37)
          · have h := h.1 c48
            refine ab_callV (me2 := mt_M_tellByte) (b := mx) (as := [.int 59]) (st := []) (rv := none) (M2 := ((ab_up (ab_up I45 mx 39 59) mx 38 ((I45 mx 38) + 1)), L, ab_RR, n, nc, ns)) d_M_tellAll_111 ce_M_tellByte v_1853 v_1855 v_121 (by decide) rfl (Nat.le_of_ble_eq_true rfl) (cx_M_tellByte_1 59 hT c48) (Nat.le_refl _) (Nat.le_refl _) hc hs (fun j h9 => by cases h9) (fun _ _ => rfl) ?_
            show ab_E w (d + 1) mt_M_tellAll 114 [.ref mx, .int v1] [] ((ab_up (ab_up I45 mx 39 59) mx 38 ((I45 mx 38) + 1)), L, ab_RR, n, nc, ns) res
            refine ab_iinc (i := 1) (v := (v1 + 1)) d_M_tellAll_114 rfl rfl (by decide) (Or.inr rfl) ?_
            refine ab_goto (tgt := 28) d_M_tellAll_117 (by decide) ?_
            exact h
          · have h := h.2 c48
            refine ab_callV (me2 := mt_M_tellByte) (b := mx) (as := [.int 59]) (st := []) (rv := none) (M2 := ((ab_up I45 mx 38 ((I45 mx 38) + 1)), L, ab_RR, n, nc, ns)) d_M_tellAll_111 ce_M_tellByte v_1853 v_1855 v_121 (by decide) rfl (Nat.le_of_ble_eq_true rfl) (cx_M_tellByte_0 59 hT c48) (Nat.le_refl _) (Nat.le_refl _) hc hs (fun j h9 => by cases h9) (fun _ _ => rfl) ?_
            show ab_E w (d + 1) mt_M_tellAll 114 [.ref mx, .int v1] [] ((ab_up I45 mx 38 ((I45 mx 38) + 1)), L, ab_RR, n, nc, ns) res
            refine ab_iinc (i := 1) (v := (v1 + 1)) d_M_tellAll_114 rfl rfl (by decide) (Or.inr rfl) ?_
            refine ab_goto (tgt := 28) d_M_tellAll_117 (by decide) ?_
            exact h
        · have h := h.2 c42
          refine ab_callV (me2 := mt_M_tellByte) (b := mx) (as := [.int 32]) (st := []) (rv := none) (M2 := ((ab_up I39 mx 38 ((I39 mx 38) + 1)), L, ab_RR, n, nc, ns)) d_M_tellAll_92 ce_M_tellByte v_1853 v_1855 v_121 (by decide) rfl (Nat.le_of_ble_eq_true rfl) (cx_M_tellByte_0 32 hT c42) (Nat.le_refl _) (Nat.le_refl _) hc hs (fun j h9 => by cases h9) (fun _ _ => rfl) ?_
          show ab_E w (d + 1) mt_M_tellAll 95 [.ref mx, .int v1] [] ((ab_up I39 mx 38 ((I39 mx 38) + 1)), L, ab_RR, n, nc, ns) res
          refine ab_aload_n (i := 0) d_M_tellAll_95 rfl rfl ?_
          refine ab_aload_n (i := 0) d_M_tellAll_96 rfl rfl ?_
          refine ab_getR (ci := 11) (k := 4) (j := mx_now) d_M_tellAll_97 v_1372 rfl (by decide) (by decide) rfl r_mx_4 ?_
          refine ab_bipush (v := 75) d_M_tellAll_100 rfl ?_
          refine ab_iload_n (i := 1) d_M_tellAll_102 rfl rfl ?_
          refine ab_iadd d_M_tellAll_103 ?_
          have g49 := h.1; have h := h.2
          refine ab_iald d_M_tellAll_104 rfl rfl g49 ?_
          obtain ⟨I51, hC, h⟩ := h
          refine ab_callV (me2 := mt_M_tellNumber) (b := mx) (as := [.int (I39 mx_now (75 + v1).toNatClampNeg)]) (st := []) (rv := none) (M2 := (I51, L, ab_RR, n, nc, ns)) d_M_tellAll_105 ce_M_tellNumber v_1857 v_1859 v_122 (by decide) rfl (Nat.le_of_ble_eq_true rfl) hC (Nat.le_refl _) (Nat.le_refl _) hc hs (fun j h9 => by cases h9) (fun _ _ => rfl) ?_
          show ab_E w (d + 1) mt_M_tellAll 108 [.ref mx, .int v1] [] (I51, L, ab_RR, n, nc, ns) res
          refine ab_aload_n (i := 0) d_M_tellAll_108 rfl rfl ?_
          refine ab_bipush (v := 59) d_M_tellAll_109 rfl ?_
          by_cases c54 : (I51 mx 38) = (I51 mx 37)
          · have h := h.1 c54
            refine ab_callV (me2 := mt_M_tellByte) (b := mx) (as := [.int 59]) (st := []) (rv := none) (M2 := ((ab_up (ab_up I51 mx 39 59) mx 38 ((I51 mx 38) + 1)), L, ab_RR, n, nc, ns)) d_M_tellAll_111 ce_M_tellByte v_1853 v_1855 v_121 (by decide) rfl (Nat.le_of_ble_eq_true rfl) (cx_M_tellByte_1 59 hT c54) (Nat.le_refl _) (Nat.le_refl _) hc hs (fun j h9 => by cases h9) (fun _ _ => rfl) ?_
            show ab_E w (d + 1) mt_M_tellAll 114 [.ref mx, .int v1] [] ((ab_up (ab_up I51 mx 39 59) mx 38 ((I51 mx 38) + 1)), L, ab_RR, n, nc, ns) res
            refine ab_iinc (i := 1) (v := (v1 + 1)) d_M_tellAll_114 rfl rfl (by decide) (Or.inr rfl) ?_
            refine ab_goto (tgt := 28) d_M_tellAll_117 (by decide) ?_
            exact h
          · have h := h.2 c54
            refine ab_callV (me2 := mt_M_tellByte) (b := mx) (as := [.int 59]) (st := []) (rv := none) (M2 := ((ab_up I51 mx 38 ((I51 mx 38) + 1)), L, ab_RR, n, nc, ns)) d_M_tellAll_111 ce_M_tellByte v_1853 v_1855 v_121 (by decide) rfl (Nat.le_of_ble_eq_true rfl) (cx_M_tellByte_0 59 hT c54) (Nat.le_refl _) (Nat.le_refl _) hc hs (fun j h9 => by cases h9) (fun _ _ => rfl) ?_
            show ab_E w (d + 1) mt_M_tellAll 114 [.ref mx, .int v1] [] ((ab_up I51 mx 38 ((I51 mx 38) + 1)), L, ab_RR, n, nc, ns) res
            refine ab_iinc (i := 1) (v := (v1 + 1)) d_M_tellAll_114 rfl rfl (by decide) (Or.inr rfl) ?_
            refine ab_goto (tgt := 28) d_M_tellAll_117 (by decide) ?_
            exact h
    · have h := h.2 c10
      refine ab_callV (me2 := mt_M_tellByte) (b := mx) (as := [.int 32]) (st := []) (rv := none) (M2 := ((ab_up I7 mx 38 ((I7 mx 38) + 1)), L, ab_RR, n, nc, ns)) d_M_tellAll_58 ce_M_tellByte v_1853 v_1855 v_121 (by decide) rfl (Nat.le_of_ble_eq_true rfl) (cx_M_tellByte_0 32 hT c10) (Nat.le_refl _) (Nat.le_refl _) hc hs (fun j h9 => by cases h9) (fun _ _ => rfl) ?_
      show ab_E w (d + 1) mt_M_tellAll 61 [.ref mx, .int v1] [] ((ab_up I7 mx 38 ((I7 mx 38) + 1)), L, ab_RR, n, nc, ns) res
      refine ab_aload_n (i := 0) d_M_tellAll_61 rfl rfl ?_
      refine ab_aload_n (i := 0) d_M_tellAll_62 rfl rfl ?_
      refine ab_getR (ci := 11) (k := 4) (j := mx_now) d_M_tellAll_63 v_1372 rfl (by decide) (by decide) rfl r_mx_4 ?_
      refine ab_bipush (v := 27) d_M_tellAll_66 rfl ?_
      refine ab_iload_n (i := 1) d_M_tellAll_68 rfl rfl ?_
      refine ab_iadd d_M_tellAll_69 ?_
      have g55 := h.1; have h := h.2
      refine ab_iald d_M_tellAll_70 rfl rfl g55 ?_
      obtain ⟨I57, hC, h⟩ := h
      refine ab_callV (me2 := mt_M_tellNumber) (b := mx) (as := [.int (I7 mx_now (27 + v1).toNatClampNeg)]) (st := []) (rv := none) (M2 := (I57, L, ab_RR, n, nc, ns)) d_M_tellAll_71 ce_M_tellNumber v_1857 v_1859 v_122 (by decide) rfl (Nat.le_of_ble_eq_true rfl) hC (Nat.le_refl _) (Nat.le_refl _) hc hs (fun j h9 => by cases h9) (fun _ _ => rfl) ?_
      show ab_E w (d + 1) mt_M_tellAll 74 [.ref mx, .int v1] [] (I57, L, ab_RR, n, nc, ns) res
      refine ab_aload_n (i := 0) d_M_tellAll_74 rfl rfl ?_
      refine ab_bipush (v := 32) d_M_tellAll_75 rfl ?_
      by_cases c60 : (I57 mx 38) = (I57 mx 37)
      · have h := h.1 c60
        refine ab_callV (me2 := mt_M_tellByte) (b := mx) (as := [.int 32]) (st := []) (rv := none) (M2 := ((ab_up (ab_up I57 mx 39 32) mx 38 ((I57 mx 38) + 1)), L, ab_RR, n, nc, ns)) d_M_tellAll_77 ce_M_tellByte v_1853 v_1855 v_121 (by decide) rfl (Nat.le_of_ble_eq_true rfl) (cx_M_tellByte_1 32 hT c60) (Nat.le_refl _) (Nat.le_refl _) hc hs (fun j h9 => by cases h9) (fun _ _ => rfl) ?_
        show ab_E w (d + 1) mt_M_tellAll 80 [.ref mx, .int v1] [] ((ab_up (ab_up I57 mx 39 32) mx 38 ((I57 mx 38) + 1)), L, ab_RR, n, nc, ns) res
        refine ab_aload_n (i := 0) d_M_tellAll_80 rfl rfl ?_
        refine ab_aload_n (i := 0) d_M_tellAll_81 rfl rfl ?_
        refine ab_iload_n (i := 1) d_M_tellAll_82 rfl rfl ?_
        have g62 := h.1; have h := h.2
        refine ab_callV (me2 := mt_M_priceOf) (b := mx) (as := [.int v1]) (st := [.ref mx]) (rv := (some (.int (I57 mx_now (51 + v1).toNatClampNeg)))) (M2 := ((ab_up (ab_up I57 mx 39 32) mx 38 ((I57 mx 38) + 1)), L, ab_RR, n, nc, ns)) d_M_tellAll_83 ce_M_priceOf v_1654 v_1656 v_83 (by decide) rfl (Nat.le_of_ble_eq_true rfl) (cx_M_priceOf_0 v1 hT g62) (Nat.le_refl _) (Nat.le_refl _) hc hs (fun j h9 => by cases h9) (fun _ _ => rfl) ?_
        show ab_E w (d + 1) mt_M_tellAll 86 [.ref mx, .int v1] [.int (I57 mx_now (51 + v1).toNatClampNeg), .ref mx] ((ab_up (ab_up I57 mx 39 32) mx 38 ((I57 mx 38) + 1)), L, ab_RR, n, nc, ns) res
        obtain ⟨I64, hC, h⟩ := h
        refine ab_callV (me2 := mt_M_tellNumber) (b := mx) (as := [.int (I57 mx_now (51 + v1).toNatClampNeg)]) (st := []) (rv := none) (M2 := (I64, L, ab_RR, n, nc, ns)) d_M_tellAll_86 ce_M_tellNumber v_1857 v_1859 v_122 (by decide) rfl (Nat.le_of_ble_eq_true rfl) hC (Nat.le_refl _) (Nat.le_refl _) hc hs (fun j h9 => by cases h9) (fun _ _ => rfl) ?_
        show ab_E w (d + 1) mt_M_tellAll 89 [.ref mx, .int v1] [] (I64, L, ab_RR, n, nc, ns) res
        refine ab_aload_n (i := 0) d_M_tellAll_89 rfl rfl ?_
        refine ab_bipush (v := 32) d_M_tellAll_90 rfl ?_
        by_cases c67 : (I64 mx 38) = (I64 mx 37)
        · have h := h.1 c67
          refine ab_callV (me2 := mt_M_tellByte) (b := mx) (as := [.int 32]) (st := []) (rv := none) (M2 := ((ab_up (ab_up I64 mx 39 32) mx 38 ((I64 mx 38) + 1)), L, ab_RR, n, nc, ns)) d_M_tellAll_92 ce_M_tellByte v_1853 v_1855 v_121 (by decide) rfl (Nat.le_of_ble_eq_true rfl) (cx_M_tellByte_1 32 hT c67) (Nat.le_refl _) (Nat.le_refl _) hc hs (fun j h9 => by cases h9) (fun _ _ => rfl) ?_
          show ab_E w (d + 1) mt_M_tellAll 95 [.ref mx, .int v1] [] ((ab_up (ab_up I64 mx 39 32) mx 38 ((I64 mx 38) + 1)), L, ab_RR, n, nc, ns) res
          refine ab_aload_n (i := 0) d_M_tellAll_95 rfl rfl ?_
          refine ab_aload_n (i := 0) d_M_tellAll_96 rfl rfl ?_
          refine ab_getR (ci := 11) (k := 4) (j := mx_now) d_M_tellAll_97 v_1372 rfl (by decide) (by decide) rfl r_mx_4 ?_
          refine ab_bipush (v := 75) d_M_tellAll_100 rfl ?_
          refine ab_iload_n (i := 1) d_M_tellAll_102 rfl rfl ?_
          refine ab_iadd d_M_tellAll_103 ?_
          have g68 := h.1; have h := h.2
          refine ab_iald d_M_tellAll_104 rfl rfl g68 ?_
          obtain ⟨I70, hC, h⟩ := h
          refine ab_callV (me2 := mt_M_tellNumber) (b := mx) (as := [.int (I64 mx_now (75 + v1).toNatClampNeg)]) (st := []) (rv := none) (M2 := (I70, L, ab_RR, n, nc, ns)) d_M_tellAll_105 ce_M_tellNumber v_1857 v_1859 v_122 (by decide) rfl (Nat.le_of_ble_eq_true rfl) hC (Nat.le_refl _) (Nat.le_refl _) hc hs (fun j h9 => by cases h9) (fun _ _ => rfl) ?_
          show ab_E w (d + 1) mt_M_tellAll 108 [.ref mx, .int v1] [] (I70, L, ab_RR, n, nc, ns) res
          refine ab_aload_n (i := 0) d_M_tellAll_108 rfl rfl ?_
          refine ab_bipush (v := 59) d_M_tellAll_109 rfl ?_
          by_cases c73 : (I70 mx 38) = (I70 mx 37)
          · have h := h.1 c73
            refine ab_callV (me2 := mt_M_tellByte) (b := mx) (as := [.int 59]) (st := []) (rv := none) (M2 := ((ab_up (ab_up I70 mx 39 59) mx 38 ((I70 mx 38) + 1)), L, ab_RR, n, nc, ns)) d_M_tellAll_111 ce_M_tellByte v_1853 v_1855 v_121 (by decide) rfl (Nat.le_of_ble_eq_true rfl) (cx_M_tellByte_1 59 hT c73) (Nat.le_refl _) (Nat.le_refl _) hc hs (fun j h9 => by cases h9) (fun _ _ => rfl) ?_
            show ab_E w (d + 1) mt_M_tellAll 114 [.ref mx, .int v1] [] ((ab_up (ab_up I70 mx 39 59) mx 38 ((I70 mx 38) + 1)), L, ab_RR, n, nc, ns) res
            refine ab_iinc (i := 1) (v := (v1 + 1)) d_M_tellAll_114 rfl rfl (by decide) (Or.inr rfl) ?_
            refine ab_goto (tgt := 28) d_M_tellAll_117 (by decide) ?_
            exact h
          · have h := h.2 c73
            refine ab_callV (me2 := mt_M_tellByte) (b := mx) (as := [.int 59]) (st := []) (rv := none) (M2 := ((ab_up I70 mx 38 ((I70 mx 38) + 1)), L, ab_RR, n, nc, ns)) d_M_tellAll_111 ce_M_tellByte v_1853 v_1855 v_121 (by decide) rfl (Nat.le_of_ble_eq_true rfl) (cx_M_tellByte_0 59 hT c73) (Nat.le_refl _) (Nat.le_refl _) hc hs (fun j h9 => by cases h9) (fun _ _ => rfl) ?_
            show ab_E w (d + 1) mt_M_tellAll 114 [.ref mx, .int v1] [] ((ab_up I70 mx 38 ((I70 mx 38) + 1)), L, ab_RR, n, nc, ns) res
            refine ab_iinc (i := 1) (v := (v1 + 1)) d_M_tellAll_114 rfl rfl (by decide) (Or.inr rfl) ?_
            refine ab_goto (tgt := 28) d_M_tellAll_117 (by decide) ?_
            exact h
        · have h := h.2 c67
          refine ab_callV (me2 := mt_M_tellByte) (b := mx) (as := [.int 32]) (st := []) (rv := none) (M2 := ((ab_up I64 mx 38 ((I64 mx 38) + 1)), L, ab_RR, n, nc, ns)) d_M_tellAll_92 ce_M_tellByte v_1853 v_1855 v_121 (by decide) rfl (Nat.le_of_ble_eq_true rfl) (cx_M_tellByte_0 32 hT c67) (Nat.le_refl _) (Nat.le_refl _) hc hs (fun j h9 => by cases h9) (fun _ _ => rfl) ?_
          show ab_E w (d + 1) mt_M_tellAll 95 [.ref mx, .int v1] [] ((ab_up I64 mx 38 ((I64 mx 38) + 1)), L, ab_RR, n, nc, ns) res
          refine ab_aload_n (i := 0) d_M_tellAll_95 rfl rfl ?_
          refine ab_aload_n (i := 0) d_M_tellAll_96 rfl rfl ?_
          refine ab_getR (ci := 11) (k := 4) (j := mx_now) d_M_tellAll_97 v_1372 rfl (by decide) (by decide) rfl r_mx_4 ?_
          refine ab_bipush (v := 75) d_M_tellAll_100 rfl ?_
          refine ab_iload_n (i := 1) d_M_tellAll_102 rfl rfl ?_
          refine ab_iadd d_M_tellAll_103 ?_
          have g74 := h.1; have h := h.2
          refine ab_iald d_M_tellAll_104 rfl rfl g74 ?_
          obtain ⟨I76, hC, h⟩ := h
          refine ab_callV (me2 := mt_M_tellNumber) (b := mx) (as := [.int (I64 mx_now (75 + v1).toNatClampNeg)]) (st := []) (rv := none) (M2 := (I76, L, ab_RR, n, nc, ns)) d_M_tellAll_105 ce_M_tellNumber v_1857 v_1859 v_122 (by decide) rfl (Nat.le_of_ble_eq_true rfl) hC (Nat.le_refl _) (Nat.le_refl _) hc hs (fun j h9 => by cases h9) (fun _ _ => rfl) ?_
          show ab_E w (d + 1) mt_M_tellAll 108 [.ref mx, .int v1] [] (I76, L, ab_RR, n, nc, ns) res
          refine ab_aload_n (i := 0) d_M_tellAll_108 rfl rfl ?_
          refine ab_bipush (v := 59) d_M_tellAll_109 rfl ?_
          by_cases c79 : (I76 mx 38) = (I76 mx 37)
          · have h := h.1 c79
            refine ab_callV (me2 := mt_M_tellByte) (b := mx) (as := [.int 59]) (st := []) (rv := none) (M2 := ((ab_up (ab_up I76 mx 39 59) mx 38 ((I76 mx 38) + 1)), L, ab_RR, n, nc, ns)) d_M_tellAll_111 ce_M_tellByte v_1853 v_1855 v_121 (by decide) rfl (Nat.le_of_ble_eq_true rfl) (cx_M_tellByte_1 59 hT c79) (Nat.le_refl _) (Nat.le_refl _) hc hs (fun j h9 => by cases h9) (fun _ _ => rfl) ?_
            show ab_E w (d + 1) mt_M_tellAll 114 [.ref mx, .int v1] [] ((ab_up (ab_up I76 mx 39 59) mx 38 ((I76 mx 38) + 1)), L, ab_RR, n, nc, ns) res
            refine ab_iinc (i := 1) (v := (v1 + 1)) d_M_tellAll_114 rfl rfl (by decide) (Or.inr rfl) ?_
            refine ab_goto (tgt := 28) d_M_tellAll_117 (by decide) ?_
            exact h
          · have h := h.2 c79
            refine ab_callV (me2 := mt_M_tellByte) (b := mx) (as := [.int 59]) (st := []) (rv := none) (M2 := ((ab_up I76 mx 38 ((I76 mx 38) + 1)), L, ab_RR, n, nc, ns)) d_M_tellAll_111 ce_M_tellByte v_1853 v_1855 v_121 (by decide) rfl (Nat.le_of_ble_eq_true rfl) (cx_M_tellByte_0 59 hT c79) (Nat.le_refl _) (Nat.le_refl _) hc hs (fun j h9 => by cases h9) (fun _ _ => rfl) ?_
            show ab_E w (d + 1) mt_M_tellAll 114 [.ref mx, .int v1] [] ((ab_up I76 mx 38 ((I76 mx 38) + 1)), L, ab_RR, n, nc, ns) res
            refine ab_iinc (i := 1) (v := (v1 + 1)) d_M_tellAll_114 rfl rfl (by decide) (Or.inr rfl) ?_
            refine ab_goto (tgt := 28) d_M_tellAll_117 (by decide) ?_
            exact h
      · have h := h.2 c60
        refine ab_callV (me2 := mt_M_tellByte) (b := mx) (as := [.int 32]) (st := []) (rv := none) (M2 := ((ab_up I57 mx 38 ((I57 mx 38) + 1)), L, ab_RR, n, nc, ns)) d_M_tellAll_77 ce_M_tellByte v_1853 v_1855 v_121 (by decide) rfl (Nat.le_of_ble_eq_true rfl) (cx_M_tellByte_0 32 hT c60) (Nat.le_refl _) (Nat.le_refl _) hc hs (fun j h9 => by cases h9) (fun _ _ => rfl) ?_
        show ab_E w (d + 1) mt_M_tellAll 80 [.ref mx, .int v1] [] ((ab_up I57 mx 38 ((I57 mx 38) + 1)), L, ab_RR, n, nc, ns) res
        refine ab_aload_n (i := 0) d_M_tellAll_80 rfl rfl ?_
        refine ab_aload_n (i := 0) d_M_tellAll_81 rfl rfl ?_
        refine ab_iload_n (i := 1) d_M_tellAll_82 rfl rfl ?_
        have g81 := h.1; have h := h.2
        refine ab_callV (me2 := mt_M_priceOf) (b := mx) (as := [.int v1]) (st := [.ref mx]) (rv := (some (.int (I57 mx_now (51 + v1).toNatClampNeg)))) (M2 := ((ab_up I57 mx 38 ((I57 mx 38) + 1)), L, ab_RR, n, nc, ns)) d_M_tellAll_83 ce_M_priceOf v_1654 v_1656 v_83 (by decide) rfl (Nat.le_of_ble_eq_true rfl) (cx_M_priceOf_0 v1 hT g81) (Nat.le_refl _) (Nat.le_refl _) hc hs (fun j h9 => by cases h9) (fun _ _ => rfl) ?_
        show ab_E w (d + 1) mt_M_tellAll 86 [.ref mx, .int v1] [.int (I57 mx_now (51 + v1).toNatClampNeg), .ref mx] ((ab_up I57 mx 38 ((I57 mx 38) + 1)), L, ab_RR, n, nc, ns) res
        obtain ⟨I83, hC, h⟩ := h
        refine ab_callV (me2 := mt_M_tellNumber) (b := mx) (as := [.int (I57 mx_now (51 + v1).toNatClampNeg)]) (st := []) (rv := none) (M2 := (I83, L, ab_RR, n, nc, ns)) d_M_tellAll_86 ce_M_tellNumber v_1857 v_1859 v_122 (by decide) rfl (Nat.le_of_ble_eq_true rfl) hC (Nat.le_refl _) (Nat.le_refl _) hc hs (fun j h9 => by cases h9) (fun _ _ => rfl) ?_
        show ab_E w (d + 1) mt_M_tellAll 89 [.ref mx, .int v1] [] (I83, L, ab_RR, n, nc, ns) res
        refine ab_aload_n (i := 0) d_M_tellAll_89 rfl rfl ?_
        refine ab_bipush (v := 32) d_M_tellAll_90 rfl ?_
        by_cases c86 : (I83 mx 38) = (I83 mx 37)
        · have h := h.1 c86
          refine ab_callV (me2 := mt_M_tellByte) (b := mx) (as := [.int 32]) (st := []) (rv := none) (M2 := ((ab_up (ab_up I83 mx 39 32) mx 38 ((I83 mx 38) + 1)), L, ab_RR, n, nc, ns)) d_M_tellAll_92 ce_M_tellByte v_1853 v_1855 v_121 (by decide) rfl (Nat.le_of_ble_eq_true rfl) (cx_M_tellByte_1 32 hT c86) (Nat.le_refl _) (Nat.le_refl _) hc hs (fun j h9 => by cases h9) (fun _ _ => rfl) ?_
          show ab_E w (d + 1) mt_M_tellAll 95 [.ref mx, .int v1] [] ((ab_up (ab_up I83 mx 39 32) mx 38 ((I83 mx 38) + 1)), L, ab_RR, n, nc, ns) res
          refine ab_aload_n (i := 0) d_M_tellAll_95 rfl rfl ?_
          refine ab_aload_n (i := 0) d_M_tellAll_96 rfl rfl ?_
          refine ab_getR (ci := 11) (k := 4) (j := mx_now) d_M_tellAll_97 v_1372 rfl (by decide) (by decide) rfl r_mx_4 ?_
          refine ab_bipush (v := 75) d_M_tellAll_100 rfl ?_
          refine ab_iload_n (i := 1) d_M_tellAll_102 rfl rfl ?_
          refine ab_iadd d_M_tellAll_103 ?_
          have g87 := h.1; have h := h.2
          refine ab_iald d_M_tellAll_104 rfl rfl g87 ?_
          obtain ⟨I89, hC, h⟩ := h
          refine ab_callV (me2 := mt_M_tellNumber) (b := mx) (as := [.int (I83 mx_now (75 + v1).toNatClampNeg)]) (st := []) (rv := none) (M2 := (I89, L, ab_RR, n, nc, ns)) d_M_tellAll_105 ce_M_tellNumber v_1857 v_1859 v_122 (by decide) rfl (Nat.le_of_ble_eq_true rfl) hC (Nat.le_refl _) (Nat.le_refl _) hc hs (fun j h9 => by cases h9) (fun _ _ => rfl) ?_
          show ab_E w (d + 1) mt_M_tellAll 108 [.ref mx, .int v1] [] (I89, L, ab_RR, n, nc, ns) res
          refine ab_aload_n (i := 0) d_M_tellAll_108 rfl rfl ?_
          refine ab_bipush (v := 59) d_M_tellAll_109 rfl ?_
          by_cases c92 : (I89 mx 38) = (I89 mx 37)
          · have h := h.1 c92
            refine ab_callV (me2 := mt_M_tellByte) (b := mx) (as := [.int 59]) (st := []) (rv := none) (M2 := ((ab_up (ab_up I89 mx 39 59) mx 38 ((I89 mx 38) + 1)), L, ab_RR, n, nc, ns)) d_M_tellAll_111 ce_M_tellByte v_1853 v_1855 v_121 (by decide) rfl (Nat.le_of_ble_eq_true rfl) (cx_M_tellByte_1 59 hT c92) (Nat.le_refl _) (Nat.le_refl _) hc hs (fun j h9 => by cases h9) (fun _ _ => rfl) ?_
            show ab_E w (d + 1) mt_M_tellAll 114 [.ref mx, .int v1] [] ((ab_up (ab_up I89 mx 39 59) mx 38 ((I89 mx 38) + 1)), L, ab_RR, n, nc, ns) res
            refine ab_iinc (i := 1) (v := (v1 + 1)) d_M_tellAll_114 rfl rfl (by decide) (Or.inr rfl) ?_
            refine ab_goto (tgt := 28) d_M_tellAll_117 (by decide) ?_
            exact h
          · have h := h.2 c92
            refine ab_callV (me2 := mt_M_tellByte) (b := mx) (as := [.int 59]) (st := []) (rv := none) (M2 := ((ab_up I89 mx 38 ((I89 mx 38) + 1)), L, ab_RR, n, nc, ns)) d_M_tellAll_111 ce_M_tellByte v_1853 v_1855 v_121 (by decide) rfl (Nat.le_of_ble_eq_true rfl) (cx_M_tellByte_0 59 hT c92) (Nat.le_refl _) (Nat.le_refl _) hc hs (fun j h9 => by cases h9) (fun _ _ => rfl) ?_
            show ab_E w (d + 1) mt_M_tellAll 114 [.ref mx, .int v1] [] ((ab_up I89 mx 38 ((I89 mx 38) + 1)), L, ab_RR, n, nc, ns) res
            refine ab_iinc (i := 1) (v := (v1 + 1)) d_M_tellAll_114 rfl rfl (by decide) (Or.inr rfl) ?_
            refine ab_goto (tgt := 28) d_M_tellAll_117 (by decide) ?_
            exact h
        · have h := h.2 c86
          refine ab_callV (me2 := mt_M_tellByte) (b := mx) (as := [.int 32]) (st := []) (rv := none) (M2 := ((ab_up I83 mx 38 ((I83 mx 38) + 1)), L, ab_RR, n, nc, ns)) d_M_tellAll_92 ce_M_tellByte v_1853 v_1855 v_121 (by decide) rfl (Nat.le_of_ble_eq_true rfl) (cx_M_tellByte_0 32 hT c86) (Nat.le_refl _) (Nat.le_refl _) hc hs (fun j h9 => by cases h9) (fun _ _ => rfl) ?_
          show ab_E w (d + 1) mt_M_tellAll 95 [.ref mx, .int v1] [] ((ab_up I83 mx 38 ((I83 mx 38) + 1)), L, ab_RR, n, nc, ns) res
          refine ab_aload_n (i := 0) d_M_tellAll_95 rfl rfl ?_
          refine ab_aload_n (i := 0) d_M_tellAll_96 rfl rfl ?_
          refine ab_getR (ci := 11) (k := 4) (j := mx_now) d_M_tellAll_97 v_1372 rfl (by decide) (by decide) rfl r_mx_4 ?_
          refine ab_bipush (v := 75) d_M_tellAll_100 rfl ?_
          refine ab_iload_n (i := 1) d_M_tellAll_102 rfl rfl ?_
          refine ab_iadd d_M_tellAll_103 ?_
          have g93 := h.1; have h := h.2
          refine ab_iald d_M_tellAll_104 rfl rfl g93 ?_
          obtain ⟨I95, hC, h⟩ := h
          refine ab_callV (me2 := mt_M_tellNumber) (b := mx) (as := [.int (I83 mx_now (75 + v1).toNatClampNeg)]) (st := []) (rv := none) (M2 := (I95, L, ab_RR, n, nc, ns)) d_M_tellAll_105 ce_M_tellNumber v_1857 v_1859 v_122 (by decide) rfl (Nat.le_of_ble_eq_true rfl) hC (Nat.le_refl _) (Nat.le_refl _) hc hs (fun j h9 => by cases h9) (fun _ _ => rfl) ?_
          show ab_E w (d + 1) mt_M_tellAll 108 [.ref mx, .int v1] [] (I95, L, ab_RR, n, nc, ns) res
          refine ab_aload_n (i := 0) d_M_tellAll_108 rfl rfl ?_
          refine ab_bipush (v := 59) d_M_tellAll_109 rfl ?_
          by_cases c98 : (I95 mx 38) = (I95 mx 37)
          · have h := h.1 c98
            refine ab_callV (me2 := mt_M_tellByte) (b := mx) (as := [.int 59]) (st := []) (rv := none) (M2 := ((ab_up (ab_up I95 mx 39 59) mx 38 ((I95 mx 38) + 1)), L, ab_RR, n, nc, ns)) d_M_tellAll_111 ce_M_tellByte v_1853 v_1855 v_121 (by decide) rfl (Nat.le_of_ble_eq_true rfl) (cx_M_tellByte_1 59 hT c98) (Nat.le_refl _) (Nat.le_refl _) hc hs (fun j h9 => by cases h9) (fun _ _ => rfl) ?_
            show ab_E w (d + 1) mt_M_tellAll 114 [.ref mx, .int v1] [] ((ab_up (ab_up I95 mx 39 59) mx 38 ((I95 mx 38) + 1)), L, ab_RR, n, nc, ns) res
            refine ab_iinc (i := 1) (v := (v1 + 1)) d_M_tellAll_114 rfl rfl (by decide) (Or.inr rfl) ?_
            refine ab_goto (tgt := 28) d_M_tellAll_117 (by decide) ?_
            exact h
          · have h := h.2 c98
            refine ab_callV (me2 := mt_M_tellByte) (b := mx) (as := [.int 59]) (st := []) (rv := none) (M2 := ((ab_up I95 mx 38 ((I95 mx 38) + 1)), L, ab_RR, n, nc, ns)) d_M_tellAll_111 ce_M_tellByte v_1853 v_1855 v_121 (by decide) rfl (Nat.le_of_ble_eq_true rfl) (cx_M_tellByte_0 59 hT c98) (Nat.le_refl _) (Nat.le_refl _) hc hs (fun j h9 => by cases h9) (fun _ _ => rfl) ?_
            show ab_E w (d + 1) mt_M_tellAll 114 [.ref mx, .int v1] [] ((ab_up I95 mx 38 ((I95 mx 38) + 1)), L, ab_RR, n, nc, ns) res
            refine ab_iinc (i := 1) (v := (v1 + 1)) d_M_tellAll_114 rfl rfl (by decide) (Or.inr rfl) ?_
            refine ab_goto (tgt := 28) d_M_tellAll_117 (by decide) ?_
            exact h
theorem r_M_tellAll_122 {w : ab_Wd} {d n nc ns : Nat} {I : Nat → Nat → Int32} {L : Nat → Nat → Int64} {res : ab_Re} (hT : w.1.stackTraces = false) (v1 : Int32) (hc : nc ≤ res.2.2.2.2.2.1) (hs : ns ≤ res.2.2.2.2.2.2)
    (h : (((I mx_now 0) ≤ v1 → (res = (.inl none, (I, L, ab_RR, n, nc, ns)))) ∧ (¬ (I mx_now 0) ≤ v1 → (((((I mx_now 1) >>> (v1 &&& 31)) &&& 1) = 1 → (ab_E w (d + 1) mt_M_tellAll 122 [.ref mx, .int (v1 + 1)] [] (I, L, ab_RR, n, nc, ns) res)) ∧ (¬ (((I mx_now 1) >>> (v1 &&& 31)) &&& 1) = 1 → (∃ (I6 : Nat → Nat → Int32), ab_C w d mt_M_tellWord [.ref mx, .ref 480] (I, L, ab_RR, n, nc, ns) (.inl none, (I6, L, ab_RR, n, nc, ns)) ∧ ∃ (I8 : Nat → Nat → Int32), ab_C w d mt_M_tellNumber [.ref mx, .int v1] (I6, L, ab_RR, n, nc, ns) (.inl none, (I8, L, ab_RR, n, nc, ns)) ∧ (((I8 mx 38) = (I8 mx 37) → (ab_E w (d + 1) mt_M_tellAll 122 [.ref mx, .int (v1 + 1)] [] ((ab_up (ab_up I8 mx 39 59) mx 38 ((I8 mx 38) + 1)), L, ab_RR, n, nc, ns) res)) ∧ (¬ (I8 mx 38) = (I8 mx 37) → (ab_E w (d + 1) mt_M_tellAll 122 [.ref mx, .int (v1 + 1)] [] ((ab_up I8 mx 38 ((I8 mx 38) + 1)), L, ab_RR, n, nc, ns) res))))))))) : ab_E w (d + 1) mt_M_tellAll 122 [.ref mx, .int v1] [] (I, L, ab_RR, n, nc, ns) res := by
  refine ab_iload_n (i := 1) d_M_tellAll_122 rfl rfl ?_
  refine ab_aload_n (i := 0) d_M_tellAll_123 rfl rfl ?_
  refine ab_callV (me2 := mt_M_many) (b := mx) (as := []) (st := [.int v1]) (rv := (some (.int (I mx_now 0)))) (M2 := (I, L, ab_RR, n, nc, ns)) d_M_tellAll_124 ce_M_many v_1635 v_1637 v_79 (by decide) rfl (Nat.le_of_ble_eq_true rfl) (cx_M_many_0  hT (show (vp_in 0 399) from by unfold vp_in; decide)) (Nat.le_refl _) (Nat.le_refl _) hc hs (fun j h9 => by cases h9) (fun _ _ => rfl) ?_
  show ab_E w (d + 1) mt_M_tellAll 127 [.ref mx, .int v1] [.int (I mx_now 0), .int v1] (I, L, ab_RR, n, nc, ns) res
  refine ab_icmp_ge (tgt := 165) d_M_tellAll_127 (by decide) (fun c2 => ?_) (fun c2 => ?_)
  · have h := h.1 c2
    exact ab_vret d_M_tellAll_165 rfl h
  · have h := h.2 c2
    refine ab_aload_n (i := 0) d_M_tellAll_130 rfl rfl ?_
    refine ab_iload_n (i := 1) d_M_tellAll_131 rfl rfl ?_
    by_cases c4 : (((I mx_now 1) >>> (v1 &&& 31)) &&& 1) = 1
    · have h := h.1 c4
      refine ab_callV (me2 := mt_M_isSound) (b := mx) (as := [.int v1]) (st := []) (rv := (some (.int 1))) (M2 := (I, L, ab_RR, n, nc, ns)) d_M_tellAll_132 ce_M_isSound v_1679 v_1681 v_89 (by decide) rfl (Nat.le_of_ble_eq_true rfl) (cx_M_isSound_1 v1 hT (show (vp_in 1 399) from by unfold vp_in; decide) c4) (Nat.le_refl _) (Nat.le_refl _) hc hs (fun j h9 => by cases h9) (fun _ _ => rfl) ?_
      show ab_E w (d + 1) mt_M_tellAll 135 [.ref mx, .int v1] [.int 1] (I, L, ab_RR, n, nc, ns) res
      refine ab_if_eq (tgt := 141) d_M_tellAll_135 (by decide) (fun c9 => absurd c9 (show ¬ (1 : Int32) = 0 from by decide)) (fun _ => ?_)
      refine ab_goto (tgt := 159) d_M_tellAll_138 (by decide) ?_
      refine ab_iinc (i := 1) (v := (v1 + 1)) d_M_tellAll_159 rfl rfl (by decide) (Or.inr rfl) ?_
      refine ab_goto (tgt := 122) d_M_tellAll_162 (by decide) ?_
      exact h
    · have h := h.2 c4
      refine ab_callV (me2 := mt_M_isSound) (b := mx) (as := [.int v1]) (st := []) (rv := (some (.int 0))) (M2 := (I, L, ab_RR, n, nc, ns)) d_M_tellAll_132 ce_M_isSound v_1679 v_1681 v_89 (by decide) rfl (Nat.le_of_ble_eq_true rfl) (cx_M_isSound_0 v1 hT (show (vp_in 1 399) from by unfold vp_in; decide) c4) (Nat.le_refl _) (Nat.le_refl _) hc hs (fun j h9 => by cases h9) (fun _ _ => rfl) ?_
      show ab_E w (d + 1) mt_M_tellAll 135 [.ref mx, .int v1] [.int 0] (I, L, ab_RR, n, nc, ns) res
      refine ab_if_eq (tgt := 141) d_M_tellAll_135 (by decide) (fun _ => ?_) (fun c9 => absurd (show (0 : Int32) = 0 from by decide) c9)
      refine ab_aload_n (i := 0) d_M_tellAll_141 rfl rfl ?_
      refine ab_ldcSW (j := 7) (tx := "broken ") d_M_tellAll_142 (by decide) (by decide +kernel) ?_
      obtain ⟨I6, hC, h⟩ := h
      refine ab_callV (me2 := mt_M_tellWord) (b := mx) (as := [.ref 480]) (st := []) (rv := none) (M2 := (I6, L, ab_RR, n, nc, ns)) d_M_tellAll_145 ce_M_tellWord v_1849 v_1851 v_120 (by decide) rfl (Nat.le_of_ble_eq_true rfl) hC (Nat.le_refl _) (Nat.le_refl _) hc hs (fun j h9 => by cases h9) (fun _ _ => rfl) ?_
      show ab_E w (d + 1) mt_M_tellAll 148 [.ref mx, .int v1] [] (I6, L, ab_RR, n, nc, ns) res
      refine ab_aload_n (i := 0) d_M_tellAll_148 rfl rfl ?_
      refine ab_iload_n (i := 1) d_M_tellAll_149 rfl rfl ?_
      obtain ⟨I8, hC, h⟩ := h
      refine ab_callV (me2 := mt_M_tellNumber) (b := mx) (as := [.int v1]) (st := []) (rv := none) (M2 := (I8, L, ab_RR, n, nc, ns)) d_M_tellAll_150 ce_M_tellNumber v_1857 v_1859 v_122 (by decide) rfl (Nat.le_of_ble_eq_true rfl) hC (Nat.le_refl _) (Nat.le_refl _) hc hs (fun j h9 => by cases h9) (fun _ _ => rfl) ?_
      show ab_E w (d + 1) mt_M_tellAll 153 [.ref mx, .int v1] [] (I8, L, ab_RR, n, nc, ns) res
      refine ab_aload_n (i := 0) d_M_tellAll_153 rfl rfl ?_
      refine ab_bipush (v := 59) d_M_tellAll_154 rfl ?_
      by_cases c11 : (I8 mx 38) = (I8 mx 37)
      · have h := h.1 c11
        refine ab_callV (me2 := mt_M_tellByte) (b := mx) (as := [.int 59]) (st := []) (rv := none) (M2 := ((ab_up (ab_up I8 mx 39 59) mx 38 ((I8 mx 38) + 1)), L, ab_RR, n, nc, ns)) d_M_tellAll_156 ce_M_tellByte v_1853 v_1855 v_121 (by decide) rfl (Nat.le_of_ble_eq_true rfl) (cx_M_tellByte_1 59 hT c11) (Nat.le_refl _) (Nat.le_refl _) hc hs (fun j h9 => by cases h9) (fun _ _ => rfl) ?_
        show ab_E w (d + 1) mt_M_tellAll 159 [.ref mx, .int v1] [] ((ab_up (ab_up I8 mx 39 59) mx 38 ((I8 mx 38) + 1)), L, ab_RR, n, nc, ns) res
        refine ab_iinc (i := 1) (v := (v1 + 1)) d_M_tellAll_159 rfl rfl (by decide) (Or.inr rfl) ?_
        refine ab_goto (tgt := 122) d_M_tellAll_162 (by decide) ?_
        exact h
      · have h := h.2 c11
        refine ab_callV (me2 := mt_M_tellByte) (b := mx) (as := [.int 59]) (st := []) (rv := none) (M2 := ((ab_up I8 mx 38 ((I8 mx 38) + 1)), L, ab_RR, n, nc, ns)) d_M_tellAll_156 ce_M_tellByte v_1853 v_1855 v_121 (by decide) rfl (Nat.le_of_ble_eq_true rfl) (cx_M_tellByte_0 59 hT c11) (Nat.le_refl _) (Nat.le_refl _) hc hs (fun j h9 => by cases h9) (fun _ _ => rfl) ?_
        show ab_E w (d + 1) mt_M_tellAll 159 [.ref mx, .int v1] [] ((ab_up I8 mx 38 ((I8 mx 38) + 1)), L, ab_RR, n, nc, ns) res
        refine ab_iinc (i := 1) (v := (v1 + 1)) d_M_tellAll_159 rfl rfl (by decide) (Or.inr rfl) ?_
        refine ab_goto (tgt := 122) d_M_tellAll_162 (by decide) ?_
        exact h
theorem r_M_told_0 {w : ab_Wd} {d n nc ns : Nat} {I : Nat → Nat → Int32} {L : Nat → Nat → Int64} {res : ab_Re} (hT : w.1.stackTraces = false) (v1 : Int32) (hc : nc ≤ res.2.2.2.2.2.1) (hs : ns ≤ res.2.2.2.2.2.2)
    (h : ∃ (I2 : Nat → Nat → Int32), ab_C w d mt_M_tellAll [.ref mx] ((ab_up (ab_up (ab_up I mx 1 0) mx 37 v1) mx 39 (-1)), L, ab_RR, n, nc, ns) (.inl none, (I2, L, ab_RR, n, nc, ns)) ∧ ((¬ v1 = (-1) → ((¬ (I2 mx 39) = (-1) → (res = (.inl (some (.int (I2 mx 39))), (I2, L, ab_RR, n, nc, ns)))) ∧ ((I2 mx 39) = (-1) → (res = (.inl (some (.int 0)), ((ab_up I2 mx 1 1), L, ab_RR, n, nc, ns)))))) ∧ (v1 = (-1) → (res = (.inl (some (.int (I2 mx 38))), (I2, L, ab_RR, n, nc, ns)))))) : ab_E w (d + 1) mt_M_told 0 [.ref mx, .int v1] [] (I, L, ab_RR, n, nc, ns) res := by
  refine ab_aload_n (i := 0) d_M_told_0 rfl rfl ?_
  refine ab_iconst (v := 0) d_M_told_1 rfl ?_
  refine ab_putI (ci := 11) (k := 1) d_M_told_2 v_1369 rfl (by decide) (by decide) rfl (Or.inl rfl) rfl rfl ?_
  refine ab_aload_n (i := 0) d_M_told_5 rfl rfl ?_
  refine ab_iload_n (i := 1) d_M_told_6 rfl rfl ?_
  refine ab_putI (ci := 11) (k := 37) d_M_told_7 v_1405 rfl (by decide) (by decide) rfl (Or.inl rfl) rfl rfl ?_
  refine ab_aload_n (i := 0) d_M_told_10 rfl rfl ?_
  refine ab_iconst (v := (-1)) d_M_told_11 rfl ?_
  refine ab_putI (ci := 11) (k := 39) d_M_told_12 v_1407 rfl (by decide) (by decide) rfl (Or.inl rfl) rfl rfl ?_
  refine ab_aload_n (i := 0) d_M_told_15 rfl rfl ?_
  obtain ⟨I2, hC, h⟩ := h
  refine ab_callV (me2 := mt_M_tellAll) (b := mx) (as := []) (st := []) (rv := none) (M2 := (I2, L, ab_RR, n, nc, ns)) d_M_told_16 ce_M_tellAll v_1844 v_1846 v_119 (by decide) rfl (Nat.le_of_ble_eq_true rfl) hC (Nat.le_refl _) (Nat.le_refl _) hc hs (fun j h9 => by cases h9) (fun _ _ => rfl) ?_
  show ab_E w (d + 1) mt_M_told 19 [.ref mx, .int v1] [] (I2, L, ab_RR, n, nc, ns) res
  refine ab_iload_n (i := 1) d_M_told_19 rfl rfl ?_
  refine ab_iconst (v := (-1)) d_M_told_20 rfl ?_
  refine ab_icmp_ne (tgt := 31) d_M_told_21 (by decide) (fun c3 => ?_) (fun c3 => ?_)
  · have h := h.1 c3
    refine ab_aload_n (i := 0) d_M_told_31 rfl rfl ?_
    refine ab_getI (ci := 11) (k := 39) d_M_told_32 v_1407 rfl (by decide) (by decide) rfl ?_
    refine ab_iconst (v := (-1)) d_M_told_35 rfl ?_
    refine ab_icmp_ne (tgt := 47) d_M_told_36 (by decide) (fun c4 => ?_) (fun c4 => ?_)
    · have h := h.1 c4
      refine ab_aload_n (i := 0) d_M_told_47 rfl rfl ?_
      refine ab_getI (ci := 11) (k := 39) d_M_told_48 v_1407 rfl (by decide) (by decide) rfl ?_
      exact ab_iret (ty := .int) d_M_told_51 rfl rfl h
    · have h := h.2 c4
      refine ab_aload_n (i := 0) d_M_told_39 rfl rfl ?_
      refine ab_iconst (v := 1) d_M_told_40 rfl ?_
      refine ab_callV (me2 := mt_M_fail) (b := mx) (as := [.int 1]) (st := []) (rv := (some (.int 0))) (M2 := ((ab_up I2 mx 1 1), L, ab_RR, n, nc, ns)) d_M_told_41 ce_M_fail v_1562 v_1564 v_66 (by decide) rfl (Nat.le_of_ble_eq_true rfl) (cx_M_fail_0 1 hT) (Nat.le_refl _) (Nat.le_refl _) hc hs (fun j h9 => by cases h9) (fun _ _ => rfl) ?_
      show ab_E w (d + 1) mt_M_told 44 [.ref mx, .int v1] [.int 0] ((ab_up I2 mx 1 1), L, ab_RR, n, nc, ns) res
      refine ab_goto (tgt := 51) d_M_told_44 (by decide) ?_
      exact ab_iret (ty := .int) d_M_told_51 rfl rfl h
  · have h := h.2 c3
    refine ab_aload_n (i := 0) d_M_told_24 rfl rfl ?_
    refine ab_getI (ci := 11) (k := 38) d_M_told_25 v_1406 rfl (by decide) (by decide) rfl ?_
    refine ab_goto (tgt := 51) d_M_told_28 (by decide) ?_
    exact ab_iret (ty := .int) d_M_told_51 rfl rfl h
theorem r_M_soundOf_0 {w : ab_Wd} {d n nc ns : Nat} {I : Nat → Nat → Int32} {L : Nat → Nat → Int64} {res : ab_Re} (hT : w.1.stackTraces = false) (v1 : Int32) (hc : nc ≤ res.2.2.2.2.2.1) (hs : ns ≤ res.2.2.2.2.2.2)
    (h : ab_E w (d + 1) mt_M_soundOf 4 [.ref mx, .int v1, .int 0, .int 0] [] (I, L, ab_RR, n, nc, ns) res) : ab_E w (d + 1) mt_M_soundOf 0 [.ref mx, .int v1, .null, .null] [] (I, L, ab_RR, n, nc, ns) res := by
  refine ab_iconst (v := 0) d_M_soundOf_0 rfl ?_
  refine ab_istore_n (i := 2) d_M_soundOf_1 rfl (by decide) (Or.inr rfl) ?_
  refine ab_iconst (v := 0) d_M_soundOf_2 rfl ?_
  refine ab_istore_n (i := 3) d_M_soundOf_3 rfl (by decide) (Or.inr rfl) ?_
  exact h
theorem r_M_soundOf_4 {w : ab_Wd} {d n nc ns : Nat} {I : Nat → Nat → Int32} {L : Nat → Nat → Int64} {res : ab_Re} (hT : w.1.stackTraces = false) (v1 : Int32) (v2 : Int32) (v3 : Int32) (hc : nc ≤ res.2.2.2.2.2.1) (hs : ns ≤ res.2.2.2.2.2.2)
    (h : (((I mx_now 0) ≤ v3 → (res = (.inl (some (.int v2)), (I, L, ab_RR, n, nc, ns)))) ∧ (¬ (I mx_now 0) ≤ v3 → (((((I mx_now 1) >>> (v3 &&& 31)) &&& 1) = 1 → ((vp_in (75 + v3) 399) ∧ ((¬ (I mx_now (75 + v3).toNatClampNeg) = v1 → (ab_E w (d + 1) mt_M_soundOf 4 [.ref mx, .int v1, .int (v2 ||| 0), .int (v3 + 1)] [] (I, L, ab_RR, n, nc, ns) res)) ∧ ((I mx_now (75 + v3).toNatClampNeg) = v1 → (ab_E w (d + 1) mt_M_soundOf 4 [.ref mx, .int v1, .int (v2 ||| ((1 : Int32) <<< (v3 &&& 31))), .int (v3 + 1)] [] (I, L, ab_RR, n, nc, ns) res))))) ∧ (¬ (((I mx_now 1) >>> (v3 &&& 31)) &&& 1) = 1 → (ab_E w (d + 1) mt_M_soundOf 4 [.ref mx, .int v1, .int (v2 ||| 0), .int (v3 + 1)] [] (I, L, ab_RR, n, nc, ns) res)))))) : ab_E w (d + 1) mt_M_soundOf 4 [.ref mx, .int v1, .int v2, .int v3] [] (I, L, ab_RR, n, nc, ns) res := by
  refine ab_iload_n (i := 3) d_M_soundOf_4 rfl rfl ?_
  refine ab_aload_n (i := 0) d_M_soundOf_5 rfl rfl ?_
  refine ab_callV (me2 := mt_M_many) (b := mx) (as := []) (st := [.int v3]) (rv := (some (.int (I mx_now 0)))) (M2 := (I, L, ab_RR, n, nc, ns)) d_M_soundOf_6 ce_M_many v_1635 v_1637 v_79 (by decide) rfl (Nat.le_of_ble_eq_true rfl) (cx_M_many_0  hT (show (vp_in 0 399) from by unfold vp_in; decide)) (Nat.le_refl _) (Nat.le_refl _) hc hs (fun j h9 => by cases h9) (fun _ _ => rfl) ?_
  show ab_E w (d + 1) mt_M_soundOf 9 [.ref mx, .int v1, .int v2, .int v3] [.int (I mx_now 0), .int v3] (I, L, ab_RR, n, nc, ns) res
  refine ab_icmp_ge (tgt := 49) d_M_soundOf_9 (by decide) (fun c2 => ?_) (fun c2 => ?_)
  · have h := h.1 c2
    refine ab_iload_n (i := 2) d_M_soundOf_49 rfl rfl ?_
    exact ab_iret (ty := .int) d_M_soundOf_50 rfl rfl h
  · have h := h.2 c2
    refine ab_iload_n (i := 2) d_M_soundOf_12 rfl rfl ?_
    refine ab_aload_n (i := 0) d_M_soundOf_13 rfl rfl ?_
    refine ab_iload_n (i := 3) d_M_soundOf_14 rfl rfl ?_
    by_cases c4 : (((I mx_now 1) >>> (v3 &&& 31)) &&& 1) = 1
    · have h := h.1 c4
      refine ab_callV (me2 := mt_M_isSound) (b := mx) (as := [.int v3]) (st := [.int v2]) (rv := (some (.int 1))) (M2 := (I, L, ab_RR, n, nc, ns)) d_M_soundOf_15 ce_M_isSound v_1679 v_1681 v_89 (by decide) rfl (Nat.le_of_ble_eq_true rfl) (cx_M_isSound_1 v3 hT (show (vp_in 1 399) from by unfold vp_in; decide) c4) (Nat.le_refl _) (Nat.le_refl _) hc hs (fun j h9 => by cases h9) (fun _ _ => rfl) ?_
      show ab_E w (d + 1) mt_M_soundOf 18 [.ref mx, .int v1, .int v2, .int v3] [.int 1, .int v2] (I, L, ab_RR, n, nc, ns) res
      refine ab_if_eq (tgt := 40) d_M_soundOf_18 (by decide) (fun c9 => absurd c9 (show ¬ (1 : Int32) = 0 from by decide)) (fun _ => ?_)
      refine ab_aload_n (i := 0) d_M_soundOf_21 rfl rfl ?_
      refine ab_getR (ci := 11) (k := 4) (j := mx_now) d_M_soundOf_22 v_1372 rfl (by decide) (by decide) rfl r_mx_4 ?_
      refine ab_bipush (v := 75) d_M_soundOf_25 rfl ?_
      refine ab_iload_n (i := 3) d_M_soundOf_27 rfl rfl ?_
      refine ab_iadd d_M_soundOf_28 ?_
      have g5 := h.1; have h := h.2
      refine ab_iald d_M_soundOf_29 rfl rfl g5 ?_
      refine ab_iload_n (i := 1) d_M_soundOf_30 rfl rfl ?_
      refine ab_icmp_ne (tgt := 40) d_M_soundOf_31 (by decide) (fun c6 => ?_) (fun c6 => ?_)
      · have h := h.1 c6
        refine ab_iconst (v := 0) d_M_soundOf_40 rfl ?_
        refine ab_ior d_M_soundOf_41 ?_
        refine ab_istore_n (i := 2) d_M_soundOf_42 rfl (by decide) (Or.inr rfl) ?_
        refine ab_iinc (i := 3) (v := (v3 + 1)) d_M_soundOf_43 rfl rfl (by decide) (Or.inr rfl) ?_
        refine ab_goto (tgt := 4) d_M_soundOf_46 (by decide) ?_
        exact h
      · have h := h.2 c6
        refine ab_iconst (v := 1) d_M_soundOf_34 rfl ?_
        refine ab_iload_n (i := 3) d_M_soundOf_35 rfl rfl ?_
        refine ab_ishl d_M_soundOf_36 ?_
        refine ab_goto (tgt := 41) d_M_soundOf_37 (by decide) ?_
        refine ab_ior d_M_soundOf_41 ?_
        refine ab_istore_n (i := 2) d_M_soundOf_42 rfl (by decide) (Or.inr rfl) ?_
        refine ab_iinc (i := 3) (v := (v3 + 1)) d_M_soundOf_43 rfl rfl (by decide) (Or.inr rfl) ?_
        refine ab_goto (tgt := 4) d_M_soundOf_46 (by decide) ?_
        exact h
    · have h := h.2 c4
      refine ab_callV (me2 := mt_M_isSound) (b := mx) (as := [.int v3]) (st := [.int v2]) (rv := (some (.int 0))) (M2 := (I, L, ab_RR, n, nc, ns)) d_M_soundOf_15 ce_M_isSound v_1679 v_1681 v_89 (by decide) rfl (Nat.le_of_ble_eq_true rfl) (cx_M_isSound_0 v3 hT (show (vp_in 1 399) from by unfold vp_in; decide) c4) (Nat.le_refl _) (Nat.le_refl _) hc hs (fun j h9 => by cases h9) (fun _ _ => rfl) ?_
      show ab_E w (d + 1) mt_M_soundOf 18 [.ref mx, .int v1, .int v2, .int v3] [.int 0, .int v2] (I, L, ab_RR, n, nc, ns) res
      refine ab_if_eq (tgt := 40) d_M_soundOf_18 (by decide) (fun _ => ?_) (fun c9 => absurd (show (0 : Int32) = 0 from by decide) c9)
      refine ab_iconst (v := 0) d_M_soundOf_40 rfl ?_
      refine ab_ior d_M_soundOf_41 ?_
      refine ab_istore_n (i := 2) d_M_soundOf_42 rfl (by decide) (Or.inr rfl) ?_
      refine ab_iinc (i := 3) (v := (v3 + 1)) d_M_soundOf_43 rfl rfl (by decide) (Or.inr rfl) ?_
      refine ab_goto (tgt := 4) d_M_soundOf_46 (by decide) ?_
      exact h
theorem r_M_pricesOf_0 {w : ab_Wd} {d n nc ns : Nat} {I : Nat → Nat → Int32} {L : Nat → Nat → Int64} {res : ab_Re} (hT : w.1.stackTraces = false) (v1 : Int32) (hc : nc ≤ res.2.2.2.2.2.1) (hs : ns ≤ res.2.2.2.2.2.2)
    (h : ab_E w (d + 1) mt_M_pricesOf 4 [.ref mx, .int v1, .int 0, .int 0] [] (I, L, ab_RR, n, nc, ns) res) : ab_E w (d + 1) mt_M_pricesOf 0 [.ref mx, .int v1, .null, .null] [] (I, L, ab_RR, n, nc, ns) res := by
  refine ab_iconst (v := 0) d_M_pricesOf_0 rfl ?_
  refine ab_istore_n (i := 2) d_M_pricesOf_1 rfl (by decide) (Or.inr rfl) ?_
  refine ab_iconst (v := 0) d_M_pricesOf_2 rfl ?_
  refine ab_istore_n (i := 3) d_M_pricesOf_3 rfl (by decide) (Or.inr rfl) ?_
  exact h
theorem r_M_pricesOf_4 {w : ab_Wd} {d n nc ns : Nat} {I : Nat → Nat → Int32} {L : Nat → Nat → Int64} {res : ab_Re} (hT : w.1.stackTraces = false) (v1 : Int32) (v2 : Int32) (v3 : Int32) (hc : nc ≤ res.2.2.2.2.2.1) (hs : ns ≤ res.2.2.2.2.2.2)
    (h : (((I mx_now 0) ≤ v3 → (res = (.inl (some (.int v2)), (I, L, ab_RR, n, nc, ns)))) ∧ (¬ (I mx_now 0) ≤ v3 → ((((v1 >>> (v3 &&& 31)) &&& 1) = 1 → ((vp_in (51 + v3) 399) ∧ ab_E w (d + 1) mt_M_pricesOf 4 [.ref mx, .int v1, .int (v2 + (I mx_now (51 + v3).toNatClampNeg)), .int (v3 + 1)] [] (I, L, ab_RR, n, nc, ns) res)) ∧ (¬ ((v1 >>> (v3 &&& 31)) &&& 1) = 1 → (ab_E w (d + 1) mt_M_pricesOf 4 [.ref mx, .int v1, .int (v2 + 0), .int (v3 + 1)] [] (I, L, ab_RR, n, nc, ns) res)))))) : ab_E w (d + 1) mt_M_pricesOf 4 [.ref mx, .int v1, .int v2, .int v3] [] (I, L, ab_RR, n, nc, ns) res := by
  refine ab_iload_n (i := 3) d_M_pricesOf_4 rfl rfl ?_
  refine ab_aload_n (i := 0) d_M_pricesOf_5 rfl rfl ?_
  refine ab_callV (me2 := mt_M_many) (b := mx) (as := []) (st := [.int v3]) (rv := (some (.int (I mx_now 0)))) (M2 := (I, L, ab_RR, n, nc, ns)) d_M_pricesOf_6 ce_M_many v_1635 v_1637 v_79 (by decide) rfl (Nat.le_of_ble_eq_true rfl) (cx_M_many_0  hT (show (vp_in 0 399) from by unfold vp_in; decide)) (Nat.le_refl _) (Nat.le_refl _) hc hs (fun j h9 => by cases h9) (fun _ _ => rfl) ?_
  show ab_E w (d + 1) mt_M_pricesOf 9 [.ref mx, .int v1, .int v2, .int v3] [.int (I mx_now 0), .int v3] (I, L, ab_RR, n, nc, ns) res
  refine ab_icmp_ge (tgt := 38) d_M_pricesOf_9 (by decide) (fun c2 => ?_) (fun c2 => ?_)
  · have h := h.1 c2
    refine ab_iload_n (i := 2) d_M_pricesOf_38 rfl rfl ?_
    exact ab_iret (ty := .int) d_M_pricesOf_39 rfl rfl h
  · have h := h.2 c2
    refine ab_iload_n (i := 2) d_M_pricesOf_12 rfl rfl ?_
    refine ab_iload_n (i := 1) d_M_pricesOf_13 rfl rfl ?_
    refine ab_iload_n (i := 3) d_M_pricesOf_14 rfl rfl ?_
    by_cases c4 : ((v1 >>> (v3 &&& 31)) &&& 1) = 1
    · have h := h.1 c4
      refine ab_callS (me2 := mt_M_has) (as := [.int v1, .int v3]) (st := [.int v2]) (rv := (some (.int 1))) (M2 := (I, L, ab_RR, n, nc, ns)) d_M_pricesOf_15 ce_M_has ⟨v_1648, Or.inl v_1647⟩ (Nat.le_of_ble_eq_true rfl) (cx_M_has_1 v1 v3 hT c4) (Nat.le_refl _) (Nat.le_refl _) hc hs (fun j h9 => by cases h9) (fun _ _ => rfl) ?_
      show ab_E w (d + 1) mt_M_pricesOf 18 [.ref mx, .int v1, .int v2, .int v3] [.int 1, .int v2] (I, L, ab_RR, n, nc, ns) res
      refine ab_if_eq (tgt := 29) d_M_pricesOf_18 (by decide) (fun c9 => absurd c9 (show ¬ (1 : Int32) = 0 from by decide)) (fun _ => ?_)
      refine ab_aload_n (i := 0) d_M_pricesOf_21 rfl rfl ?_
      refine ab_iload_n (i := 3) d_M_pricesOf_22 rfl rfl ?_
      have g6 := h.1; have h := h.2
      refine ab_callV (me2 := mt_M_priceOf) (b := mx) (as := [.int v3]) (st := [.int v2]) (rv := (some (.int (I mx_now (51 + v3).toNatClampNeg)))) (M2 := (I, L, ab_RR, n, nc, ns)) d_M_pricesOf_23 ce_M_priceOf v_1654 v_1656 v_83 (by decide) rfl (Nat.le_of_ble_eq_true rfl) (cx_M_priceOf_0 v3 hT g6) (Nat.le_refl _) (Nat.le_refl _) hc hs (fun j h9 => by cases h9) (fun _ _ => rfl) ?_
      show ab_E w (d + 1) mt_M_pricesOf 26 [.ref mx, .int v1, .int v2, .int v3] [.int (I mx_now (51 + v3).toNatClampNeg), .int v2] (I, L, ab_RR, n, nc, ns) res
      refine ab_goto (tgt := 30) d_M_pricesOf_26 (by decide) ?_
      refine ab_iadd d_M_pricesOf_30 ?_
      refine ab_istore_n (i := 2) d_M_pricesOf_31 rfl (by decide) (Or.inr rfl) ?_
      refine ab_iinc (i := 3) (v := (v3 + 1)) d_M_pricesOf_32 rfl rfl (by decide) (Or.inr rfl) ?_
      refine ab_goto (tgt := 4) d_M_pricesOf_35 (by decide) ?_
      exact h
    · have h := h.2 c4
      refine ab_callS (me2 := mt_M_has) (as := [.int v1, .int v3]) (st := [.int v2]) (rv := (some (.int 0))) (M2 := (I, L, ab_RR, n, nc, ns)) d_M_pricesOf_15 ce_M_has ⟨v_1648, Or.inl v_1647⟩ (Nat.le_of_ble_eq_true rfl) (cx_M_has_0 v1 v3 hT c4) (Nat.le_refl _) (Nat.le_refl _) hc hs (fun j h9 => by cases h9) (fun _ _ => rfl) ?_
      show ab_E w (d + 1) mt_M_pricesOf 18 [.ref mx, .int v1, .int v2, .int v3] [.int 0, .int v2] (I, L, ab_RR, n, nc, ns) res
      refine ab_if_eq (tgt := 29) d_M_pricesOf_18 (by decide) (fun _ => ?_) (fun c9 => absurd (show (0 : Int32) = 0 from by decide) c9)
      refine ab_iconst (v := 0) d_M_pricesOf_29 rfl ?_
      refine ab_iadd d_M_pricesOf_30 ?_
      refine ab_istore_n (i := 2) d_M_pricesOf_31 rfl (by decide) (Or.inr rfl) ?_
      refine ab_iinc (i := 3) (v := (v3 + 1)) d_M_pricesOf_32 rfl rfl (by decide) (Or.inr rfl) ?_
      refine ab_goto (tgt := 4) d_M_pricesOf_35 (by decide) ?_
      exact h
theorem r_M_firm_0 {w : ab_Wd} {d n nc ns : Nat} {I : Nat → Nat → Int32} {L : Nat → Nat → Int64} {res : ab_Re} (hT : w.1.stackTraces = false) (v1 : Int32) (v2 : Int32) (hc : nc ≤ res.2.2.2.2.2.1) (hs : ns ≤ res.2.2.2.2.2.2)
    (h : ((v1 < 0 → (res = (.inl (some (.int 0)), ((ab_up (ab_up I mx 1 0) mx 1 1), L, ab_RR, n, nc, ns)))) ∧ (¬ v1 < 0 → ((3 < v1 → (res = (.inl (some (.int 0)), ((ab_up (ab_up I mx 1 0) mx 1 1), L, ab_RR, n, nc, ns)))) ∧ (¬ 3 < v1 → ((v2 < 0 → (res = (.inl (some (.int 0)), ((ab_up (ab_up I mx 1 0) mx 1 1), L, ab_RR, n, nc, ns)))) ∧ (¬ v2 < 0 → ((2 < v2 → (res = (.inl (some (.int 0)), ((ab_up (ab_up I mx 1 0) mx 1 1), L, ab_RR, n, nc, ns)))) ∧ (¬ 2 < v2 → (∃ (r15 : Int32), ab_C w d mt_M_soundOf [.ref mx, .int v1] ((ab_up I mx 1 0), L, ab_RR, n, nc, ns) (.inl (some (.int r15)), ((ab_up I mx 1 0), L, ab_RR, n, nc, ns)) ∧ ((2 ≤ v2 → (∃ (r17 : Int32) (I18 : Nat → Nat → Int32), ab_C w d mt_M_lossOf [.ref mx, .int r15] ((ab_up I mx 1 0), L, ab_RR, n, nc, ns) (.inl (some (.int r17)), (I18, L, ab_RR, n, nc, ns)) ∧ ((¬ r17 = (-1) → (∃ (r20 : Int32) (I21 : Nat → Nat → Int32), ab_C w d mt_M_netNow [.ref mx] (I18, L, ab_RR, n, nc, ns) (.inl (some (.int r20)), (I21, L, ab_RR, n, nc, ns)) ∧ ∃ (r22 : Int32), ab_C w d mt_M_pricesOf [.ref mx, .int (r15 &&& r20)] (I21, L, ab_RR, n, nc, ns) (.inl (some (.int r22)), (I21, L, ab_RR, n, nc, ns)) ∧ res = (.inl (some (.int (r17 + r22))), (I21, L, ab_RR, n, nc, ns)))) ∧ (r17 = (-1) → (res = (.inl (some (.int (-1))), (I18, L, ab_RR, n, nc, ns))))))) ∧ (¬ 2 ≤ v2 → ((¬ v2 = 0 → (∃ (r24 : Int32) (I25 : Nat → Nat → Int32), ab_C w d mt_M_netNow [.ref mx] ((ab_up I mx 1 0), L, ab_RR, n, nc, ns) (.inl (some (.int r24)), (I25, L, ab_RR, n, nc, ns)) ∧ ∃ (r26 : Int32), ab_C w d mt_M_pricesOf [.ref mx, .int (r15 &&& r24)] (I25, L, ab_RR, n, nc, ns) (.inl (some (.int r26)), (I25, L, ab_RR, n, nc, ns)) ∧ res = (.inl (some (.int r26)), (I25, L, ab_RR, n, nc, ns)))) ∧ (v2 = 0 → (res = (.inl (some (.int r15)), ((ab_up I mx 1 0), L, ab_RR, n, nc, ns))))))))))))))))) : ab_E w (d + 1) mt_M_firm 0 [.ref mx, .int v1, .int v2, .null, .null] [] (I, L, ab_RR, n, nc, ns) res := by
  refine ab_aload_n (i := 0) d_M_firm_0 rfl rfl ?_
  refine ab_iconst (v := 0) d_M_firm_1 rfl ?_
  refine ab_putI (ci := 11) (k := 1) d_M_firm_2 v_1369 rfl (by decide) (by decide) rfl (Or.inl rfl) rfl rfl ?_
  refine ab_iload_n (i := 1) d_M_firm_5 rfl rfl ?_
  refine ab_iconst (v := 0) d_M_firm_6 rfl ?_
  refine ab_iconst (v := 3) d_M_firm_7 rfl ?_
  by_cases c2 : v1 < 0
  · have h := h.1 c2
    refine ab_callS (me2 := mt_M_isIn) (as := [.int v1, .int 0, .int 3]) (st := []) (rv := (some (.int 0))) (M2 := ((ab_up I mx 1 0), L, ab_RR, n, nc, ns)) d_M_firm_8 ce_M_isIn ⟨v_1753, Or.inl v_1752⟩ (Nat.le_of_ble_eq_true rfl) (cx_M_isIn_0 v1 0 3 hT c2) (Nat.le_refl _) (Nat.le_refl _) hc hs (fun j h9 => by cases h9) (fun _ _ => rfl) ?_
    show ab_E w (d + 1) mt_M_firm 11 [.ref mx, .int v1, .int v2, .null, .null] [.int 0] ((ab_up I mx 1 0), L, ab_RR, n, nc, ns) res
    refine ab_if_eq (tgt := 23) d_M_firm_11 (by decide) (fun _ => ?_) (fun c9 => absurd (show (0 : Int32) = 0 from by decide) c9)
    refine ab_aload_n (i := 0) d_M_firm_23 rfl rfl ?_
    refine ab_iconst (v := 1) d_M_firm_24 rfl ?_
    refine ab_callV (me2 := mt_M_fail) (b := mx) (as := [.int 1]) (st := []) (rv := (some (.int 0))) (M2 := ((ab_up (ab_up I mx 1 0) mx 1 1), L, ab_RR, n, nc, ns)) d_M_firm_25 ce_M_fail v_1562 v_1564 v_66 (by decide) rfl (Nat.le_of_ble_eq_true rfl) (cx_M_fail_0 1 hT) (Nat.le_refl _) (Nat.le_refl _) hc hs (fun j h9 => by cases h9) (fun _ _ => rfl) ?_
    show ab_E w (d + 1) mt_M_firm 28 [.ref mx, .int v1, .int v2, .null, .null] [.int 0] ((ab_up (ab_up I mx 1 0) mx 1 1), L, ab_RR, n, nc, ns) res
    exact ab_iret (ty := .int) d_M_firm_28 rfl rfl h
  · have h := h.2 c2
    by_cases c5 : 3 < v1
    · have h := h.1 c5
      refine ab_callS (me2 := mt_M_isIn) (as := [.int v1, .int 0, .int 3]) (st := []) (rv := (some (.int 0))) (M2 := ((ab_up I mx 1 0), L, ab_RR, n, nc, ns)) d_M_firm_8 ce_M_isIn ⟨v_1753, Or.inl v_1752⟩ (Nat.le_of_ble_eq_true rfl) (cx_M_isIn_1 v1 0 3 hT c2 c5) (Nat.le_refl _) (Nat.le_refl _) hc hs (fun j h9 => by cases h9) (fun _ _ => rfl) ?_
      show ab_E w (d + 1) mt_M_firm 11 [.ref mx, .int v1, .int v2, .null, .null] [.int 0] ((ab_up I mx 1 0), L, ab_RR, n, nc, ns) res
      refine ab_if_eq (tgt := 23) d_M_firm_11 (by decide) (fun _ => ?_) (fun c9 => absurd (show (0 : Int32) = 0 from by decide) c9)
      refine ab_aload_n (i := 0) d_M_firm_23 rfl rfl ?_
      refine ab_iconst (v := 1) d_M_firm_24 rfl ?_
      refine ab_callV (me2 := mt_M_fail) (b := mx) (as := [.int 1]) (st := []) (rv := (some (.int 0))) (M2 := ((ab_up (ab_up I mx 1 0) mx 1 1), L, ab_RR, n, nc, ns)) d_M_firm_25 ce_M_fail v_1562 v_1564 v_66 (by decide) rfl (Nat.le_of_ble_eq_true rfl) (cx_M_fail_0 1 hT) (Nat.le_refl _) (Nat.le_refl _) hc hs (fun j h9 => by cases h9) (fun _ _ => rfl) ?_
      show ab_E w (d + 1) mt_M_firm 28 [.ref mx, .int v1, .int v2, .null, .null] [.int 0] ((ab_up (ab_up I mx 1 0) mx 1 1), L, ab_RR, n, nc, ns) res
      exact ab_iret (ty := .int) d_M_firm_28 rfl rfl h
    · have h := h.2 c5
      refine ab_callS (me2 := mt_M_isIn) (as := [.int v1, .int 0, .int 3]) (st := []) (rv := (some (.int 1))) (M2 := ((ab_up I mx 1 0), L, ab_RR, n, nc, ns)) d_M_firm_8 ce_M_isIn ⟨v_1753, Or.inl v_1752⟩ (Nat.le_of_ble_eq_true rfl) (cx_M_isIn_2 v1 0 3 hT c2 c5) (Nat.le_refl _) (Nat.le_refl _) hc hs (fun j h9 => by cases h9) (fun _ _ => rfl) ?_
      show ab_E w (d + 1) mt_M_firm 11 [.ref mx, .int v1, .int v2, .null, .null] [.int 1] ((ab_up I mx 1 0), L, ab_RR, n, nc, ns) res
      refine ab_if_eq (tgt := 23) d_M_firm_11 (by decide) (fun c9 => absurd c9 (show ¬ (1 : Int32) = 0 from by decide)) (fun _ => ?_)
      refine ab_iload_n (i := 2) d_M_firm_14 rfl rfl ?_
      refine ab_iconst (v := 0) d_M_firm_15 rfl ?_
      refine ab_iconst (v := 2) d_M_firm_16 rfl ?_
      by_cases c9 : v2 < 0
      · have h := h.1 c9
        refine ab_callS (me2 := mt_M_isIn) (as := [.int v2, .int 0, .int 2]) (st := []) (rv := (some (.int 0))) (M2 := ((ab_up I mx 1 0), L, ab_RR, n, nc, ns)) d_M_firm_17 ce_M_isIn ⟨v_1753, Or.inl v_1752⟩ (Nat.le_of_ble_eq_true rfl) (cx_M_isIn_0 v2 0 2 hT c9) (Nat.le_refl _) (Nat.le_refl _) hc hs (fun j h9 => by cases h9) (fun _ _ => rfl) ?_
        show ab_E w (d + 1) mt_M_firm 20 [.ref mx, .int v1, .int v2, .null, .null] [.int 0] ((ab_up I mx 1 0), L, ab_RR, n, nc, ns) res
        refine ab_if_ne (tgt := 29) d_M_firm_20 (by decide) (fun c9 => absurd (show (0 : Int32) = 0 from by decide) c9) (fun _ => ?_)
        refine ab_aload_n (i := 0) d_M_firm_23 rfl rfl ?_
        refine ab_iconst (v := 1) d_M_firm_24 rfl ?_
        refine ab_callV (me2 := mt_M_fail) (b := mx) (as := [.int 1]) (st := []) (rv := (some (.int 0))) (M2 := ((ab_up (ab_up I mx 1 0) mx 1 1), L, ab_RR, n, nc, ns)) d_M_firm_25 ce_M_fail v_1562 v_1564 v_66 (by decide) rfl (Nat.le_of_ble_eq_true rfl) (cx_M_fail_0 1 hT) (Nat.le_refl _) (Nat.le_refl _) hc hs (fun j h9 => by cases h9) (fun _ _ => rfl) ?_
        show ab_E w (d + 1) mt_M_firm 28 [.ref mx, .int v1, .int v2, .null, .null] [.int 0] ((ab_up (ab_up I mx 1 0) mx 1 1), L, ab_RR, n, nc, ns) res
        exact ab_iret (ty := .int) d_M_firm_28 rfl rfl h
      · have h := h.2 c9
        by_cases c12 : 2 < v2
        · have h := h.1 c12
          refine ab_callS (me2 := mt_M_isIn) (as := [.int v2, .int 0, .int 2]) (st := []) (rv := (some (.int 0))) (M2 := ((ab_up I mx 1 0), L, ab_RR, n, nc, ns)) d_M_firm_17 ce_M_isIn ⟨v_1753, Or.inl v_1752⟩ (Nat.le_of_ble_eq_true rfl) (cx_M_isIn_1 v2 0 2 hT c9 c12) (Nat.le_refl _) (Nat.le_refl _) hc hs (fun j h9 => by cases h9) (fun _ _ => rfl) ?_
          show ab_E w (d + 1) mt_M_firm 20 [.ref mx, .int v1, .int v2, .null, .null] [.int 0] ((ab_up I mx 1 0), L, ab_RR, n, nc, ns) res
          refine ab_if_ne (tgt := 29) d_M_firm_20 (by decide) (fun c9 => absurd (show (0 : Int32) = 0 from by decide) c9) (fun _ => ?_)
          refine ab_aload_n (i := 0) d_M_firm_23 rfl rfl ?_
          refine ab_iconst (v := 1) d_M_firm_24 rfl ?_
          refine ab_callV (me2 := mt_M_fail) (b := mx) (as := [.int 1]) (st := []) (rv := (some (.int 0))) (M2 := ((ab_up (ab_up I mx 1 0) mx 1 1), L, ab_RR, n, nc, ns)) d_M_firm_25 ce_M_fail v_1562 v_1564 v_66 (by decide) rfl (Nat.le_of_ble_eq_true rfl) (cx_M_fail_0 1 hT) (Nat.le_refl _) (Nat.le_refl _) hc hs (fun j h9 => by cases h9) (fun _ _ => rfl) ?_
          show ab_E w (d + 1) mt_M_firm 28 [.ref mx, .int v1, .int v2, .null, .null] [.int 0] ((ab_up (ab_up I mx 1 0) mx 1 1), L, ab_RR, n, nc, ns) res
          exact ab_iret (ty := .int) d_M_firm_28 rfl rfl h
        · have h := h.2 c12
          refine ab_callS (me2 := mt_M_isIn) (as := [.int v2, .int 0, .int 2]) (st := []) (rv := (some (.int 1))) (M2 := ((ab_up I mx 1 0), L, ab_RR, n, nc, ns)) d_M_firm_17 ce_M_isIn ⟨v_1753, Or.inl v_1752⟩ (Nat.le_of_ble_eq_true rfl) (cx_M_isIn_2 v2 0 2 hT c9 c12) (Nat.le_refl _) (Nat.le_refl _) hc hs (fun j h9 => by cases h9) (fun _ _ => rfl) ?_
          show ab_E w (d + 1) mt_M_firm 20 [.ref mx, .int v1, .int v2, .null, .null] [.int 1] ((ab_up I mx 1 0), L, ab_RR, n, nc, ns) res
          refine ab_if_ne (tgt := 29) d_M_firm_20 (by decide) (fun _ => ?_) (fun c9 => absurd c9 (show ¬ (1 : Int32) = 0 from by decide))
          refine ab_aload_n (i := 0) d_M_firm_29 rfl rfl ?_
          refine ab_iload_n (i := 1) d_M_firm_30 rfl rfl ?_
          obtain ⟨r15, hC, h⟩ := h
          refine ab_callV (me2 := mt_M_soundOf) (b := mx) (as := [.int v1]) (st := []) (rv := (some (.int r15))) (M2 := ((ab_up I mx 1 0), L, ab_RR, n, nc, ns)) d_M_firm_31 ce_M_soundOf v_1867 v_1869 v_123 (by decide) rfl (Nat.le_of_ble_eq_true rfl) hC (Nat.le_refl _) (Nat.le_refl _) hc hs (fun j h9 => by cases h9) (fun _ _ => rfl) ?_
          show ab_E w (d + 1) mt_M_firm 34 [.ref mx, .int v1, .int v2, .null, .null] [.int r15] ((ab_up I mx 1 0), L, ab_RR, n, nc, ns) res
          refine ab_istore_n (i := 3) d_M_firm_34 rfl (by decide) (Or.inr rfl) ?_
          refine ab_iload_n (i := 2) d_M_firm_35 rfl rfl ?_
          refine ab_iconst (v := 2) d_M_firm_36 rfl ?_
          refine ab_icmp_ge (tgt := 59) d_M_firm_37 (by decide) (fun c16 => ?_) (fun c16 => ?_)
          · have h := h.1 c16
            refine ab_aload_n (i := 0) d_M_firm_59 rfl rfl ?_
            refine ab_iload_n (i := 3) d_M_firm_60 rfl rfl ?_
            obtain ⟨r17, I18, hC, h⟩ := h
            refine ab_callV (me2 := mt_M_lossOf) (b := mx) (as := [.int r15]) (st := []) (rv := (some (.int r17))) (M2 := (I18, L, ab_RR, n, nc, ns)) d_M_firm_61 ce_M_lossOf v_1767 v_1769 v_109 (by decide) rfl (Nat.le_of_ble_eq_true rfl) hC (Nat.le_refl _) (Nat.le_refl _) hc hs (fun j h9 => by cases h9) (fun _ _ => rfl) ?_
            show ab_E w (d + 1) mt_M_firm 64 [.ref mx, .int v1, .int v2, .int r15, .null] [.int r17] (I18, L, ab_RR, n, nc, ns) res
            refine ab_istore (i := 4) d_M_firm_64 (by decide) (Or.inr rfl) ?_
            refine ab_iload (i := 4) d_M_firm_66 rfl ?_
            refine ab_iconst (v := (-1)) d_M_firm_68 rfl ?_
            refine ab_icmp_ne (tgt := 76) d_M_firm_69 (by decide) (fun c19 => ?_) (fun c19 => ?_)
            · have h := h.1 c19
              refine ab_iload (i := 4) d_M_firm_76 rfl ?_
              refine ab_aload_n (i := 0) d_M_firm_78 rfl rfl ?_
              refine ab_iload_n (i := 3) d_M_firm_79 rfl rfl ?_
              refine ab_aload_n (i := 0) d_M_firm_80 rfl rfl ?_
              obtain ⟨r20, I21, hC, h⟩ := h
              refine ab_callV (me2 := mt_M_netNow) (b := mx) (as := []) (st := [.int r15, .ref mx, .int r17]) (rv := (some (.int r20))) (M2 := (I21, L, ab_RR, n, nc, ns)) d_M_firm_81 ce_M_netNow v_1639 v_1641 v_80 (by decide) rfl (Nat.le_of_ble_eq_true rfl) hC (Nat.le_refl _) (Nat.le_refl _) hc hs (fun j h9 => by cases h9) (fun _ _ => rfl) ?_
              show ab_E w (d + 1) mt_M_firm 84 [.ref mx, .int v1, .int v2, .int r15, .int r17] [.int r20, .int r15, .ref mx, .int r17] (I21, L, ab_RR, n, nc, ns) res
              refine ab_iand d_M_firm_84 ?_
              obtain ⟨r22, hC, h⟩ := h
              refine ab_callV (me2 := mt_M_pricesOf) (b := mx) (as := [.int (r15 &&& r20)]) (st := [.int r17]) (rv := (some (.int r22))) (M2 := (I21, L, ab_RR, n, nc, ns)) d_M_firm_85 ce_M_pricesOf v_1871 v_1873 v_124 (by decide) rfl (Nat.le_of_ble_eq_true rfl) hC (Nat.le_refl _) (Nat.le_refl _) hc hs (fun j h9 => by cases h9) (fun _ _ => rfl) ?_
              show ab_E w (d + 1) mt_M_firm 88 [.ref mx, .int v1, .int v2, .int r15, .int r17] [.int r22, .int r17] (I21, L, ab_RR, n, nc, ns) res
              refine ab_iadd d_M_firm_88 ?_
              exact ab_iret (ty := .int) d_M_firm_89 rfl rfl h
            · have h := h.2 c19
              refine ab_iconst (v := (-1)) d_M_firm_72 rfl ?_
              refine ab_goto (tgt := 89) d_M_firm_73 (by decide) ?_
              exact ab_iret (ty := .int) d_M_firm_89 rfl rfl h
          · have h := h.2 c16
            refine ab_iload_n (i := 2) d_M_firm_40 rfl rfl ?_
            refine ab_if_ne (tgt := 48) d_M_firm_41 (by decide) (fun c23 => ?_) (fun c23 => ?_)
            · have h := h.1 c23
              refine ab_aload_n (i := 0) d_M_firm_48 rfl rfl ?_
              refine ab_iload_n (i := 3) d_M_firm_49 rfl rfl ?_
              refine ab_aload_n (i := 0) d_M_firm_50 rfl rfl ?_
              obtain ⟨r24, I25, hC, h⟩ := h
              refine ab_callV (me2 := mt_M_netNow) (b := mx) (as := []) (st := [.int r15, .ref mx]) (rv := (some (.int r24))) (M2 := (I25, L, ab_RR, n, nc, ns)) d_M_firm_51 ce_M_netNow v_1639 v_1641 v_80 (by decide) rfl (Nat.le_of_ble_eq_true rfl) hC (Nat.le_refl _) (Nat.le_refl _) hc hs (fun j h9 => by cases h9) (fun _ _ => rfl) ?_
              show ab_E w (d + 1) mt_M_firm 54 [.ref mx, .int v1, .int v2, .int r15, .null] [.int r24, .int r15, .ref mx] (I25, L, ab_RR, n, nc, ns) res
              refine ab_iand d_M_firm_54 ?_
              obtain ⟨r26, hC, h⟩ := h
              refine ab_callV (me2 := mt_M_pricesOf) (b := mx) (as := [.int (r15 &&& r24)]) (st := []) (rv := (some (.int r26))) (M2 := (I25, L, ab_RR, n, nc, ns)) d_M_firm_55 ce_M_pricesOf v_1871 v_1873 v_124 (by decide) rfl (Nat.le_of_ble_eq_true rfl) hC (Nat.le_refl _) (Nat.le_refl _) hc hs (fun j h9 => by cases h9) (fun _ _ => rfl) ?_
              show ab_E w (d + 1) mt_M_firm 58 [.ref mx, .int v1, .int v2, .int r15, .null] [.int r26] (I25, L, ab_RR, n, nc, ns) res
              exact ab_iret (ty := .int) d_M_firm_58 rfl rfl h
            · have h := h.2 c23
              refine ab_iload_n (i := 3) d_M_firm_44 rfl rfl ?_
              refine ab_goto (tgt := 58) d_M_firm_45 (by decide) ?_
              exact ab_iret (ty := .int) d_M_firm_58 rfl rfl h
theorem cx_M_lessens_0 {w : ab_Wd} {d n nc ns : Nat} {I : Nat → Nat → Int32} {L : Nat → Nat → Int64} (v1 : Int32) (v2 : Int32) (hT : w.1.stackTraces = false) (e1 : (vp_in v1 10240)) (e2 : v2 < (I mx_joint v1.toNatClampNeg)) (e3 : (vp_in v1 10240)) : ab_C w d mt_M_lessens [.ref mx, .int v1, .int v2] (I, L, ab_RR, n, nc, ns) (.inl (some (.int 1)), ((ab_up I mx_joint v1.toNatClampNeg v2), L, ab_RR, n, nc, ns)) := by
  refine ab_C_of (by decide) rfl (Nat.le_of_ble_eq_true rfl) hT ?_
  have hc := Nat.le_refl nc
  have hs := Nat.le_refl ns
  refine ab_iload_n (i := 2) d_M_lessens_0 rfl rfl ?_
  refine ab_aload_n (i := 0) d_M_lessens_1 rfl rfl ?_
  refine ab_getR (ci := 11) (k := 40) (j := mx_joint) d_M_lessens_2 v_1408 rfl (by decide) (by decide) rfl r_mx_40 ?_
  refine ab_iload_n (i := 1) d_M_lessens_5 rfl rfl ?_
  refine ab_iald d_M_lessens_6 rfl rfl e1 ?_
  refine ab_icmp_lt (tgt := 12) d_M_lessens_7 (by decide) (fun _ => ?_) (fun c9 => absurd e2 c9)
  refine ab_aload_n (i := 0) d_M_lessens_12 rfl rfl ?_
  refine ab_getR (ci := 11) (k := 40) (j := mx_joint) d_M_lessens_13 v_1408 rfl (by decide) (by decide) rfl r_mx_40 ?_
  refine ab_iload_n (i := 1) d_M_lessens_16 rfl rfl ?_
  refine ab_iload_n (i := 2) d_M_lessens_17 rfl rfl ?_
  refine ab_iast d_M_lessens_18 rfl rfl e3 ?_
  refine ab_iconst (v := 1) d_M_lessens_19 rfl ?_
  exact ab_iret (ty := .boolean) d_M_lessens_20 rfl rfl rfl
theorem cx_M_lessens_1 {w : ab_Wd} {d n nc ns : Nat} {I : Nat → Nat → Int32} {L : Nat → Nat → Int64} (v1 : Int32) (v2 : Int32) (hT : w.1.stackTraces = false) (e1 : (vp_in v1 10240)) (e2 : ¬ v2 < (I mx_joint v1.toNatClampNeg)) : ab_C w d mt_M_lessens [.ref mx, .int v1, .int v2] (I, L, ab_RR, n, nc, ns) (.inl (some (.int 0)), (I, L, ab_RR, n, nc, ns)) := by
  refine ab_C_of (by decide) rfl (Nat.le_of_ble_eq_true rfl) hT ?_
  have hc := Nat.le_refl nc
  have hs := Nat.le_refl ns
  refine ab_iload_n (i := 2) d_M_lessens_0 rfl rfl ?_
  refine ab_aload_n (i := 0) d_M_lessens_1 rfl rfl ?_
  refine ab_getR (ci := 11) (k := 40) (j := mx_joint) d_M_lessens_2 v_1408 rfl (by decide) (by decide) rfl r_mx_40 ?_
  refine ab_iload_n (i := 1) d_M_lessens_5 rfl rfl ?_
  refine ab_iald d_M_lessens_6 rfl rfl e1 ?_
  refine ab_icmp_lt (tgt := 12) d_M_lessens_7 (by decide) (fun c9 => absurd c9 e2) (fun _ => ?_)
  refine ab_iconst (v := 0) d_M_lessens_10 rfl ?_
  exact ab_iret (ty := .boolean) d_M_lessens_11 rfl rfl rfl
