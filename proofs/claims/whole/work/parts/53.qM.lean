theorem d_M_note_0 : decode (ab_bc mt_M_note) 0 = .ok (.aload_n 0, 1) := by decide +kernel
theorem d_M_note_1 : decode (ab_bc mt_M_note) 1 = .ok (.iconst 0, 1) := by decide +kernel
theorem d_M_note_2 : decode (ab_bc mt_M_note) 2 = .ok (.putfield 108, 3) := by decide +kernel
theorem d_M_note_5 : decode (ab_bc mt_M_note) 5 = .ok (.aload_n 0, 1) := by decide +kernel
theorem d_M_note_6 : decode (ab_bc mt_M_note) 6 = .ok (.getfield 215, 3) := by decide +kernel
theorem d_M_note_9 : decode (ab_bc mt_M_note) 9 = .ok (.bipush 8, 2) := by decide +kernel
theorem d_M_note_11 : decode (ab_bc mt_M_note) 11 = .ok (.if_icmp .eq 11, 3) := by decide +kernel
theorem d_M_note_14 : decode (ab_bc mt_M_note) 14 = .ok (.aload_n 0, 1) := by decide +kernel
theorem d_M_note_15 : decode (ab_bc mt_M_note) 15 = .ok (.iload_n 1, 1) := by decide +kernel
theorem d_M_note_16 : decode (ab_bc mt_M_note) 16 = .ok (.invokevirtual 348, 3) := by decide +kernel
theorem d_M_note_19 : decode (ab_bc mt_M_note) 19 = .ok (.ifCond .ne 9, 3) := by decide +kernel
theorem d_M_note_22 : decode (ab_bc mt_M_note) 22 = .ok (.aload_n 0, 1) := by decide +kernel
theorem d_M_note_23 : decode (ab_bc mt_M_note) 23 = .ok (.iconst 2, 1) := by decide +kernel
theorem d_M_note_24 : decode (ab_bc mt_M_note) 24 = .ok (.invokevirtual 434, 3) := by decide +kernel
theorem d_M_note_27 : decode (ab_bc mt_M_note) 27 = .ok (.ireturn, 1) := by decide +kernel
theorem d_M_note_28 : decode (ab_bc mt_M_note) 28 = .ok (.aload_n 0, 1) := by decide +kernel
theorem d_M_note_29 : decode (ab_bc mt_M_note) 29 = .ok (.getfield 84, 3) := by decide +kernel
theorem d_M_note_32 : decode (ab_bc mt_M_note) 32 = .ok (.aload_n 0, 1) := by decide +kernel
theorem d_M_note_33 : decode (ab_bc mt_M_note) 33 = .ok (.getfield 215, 3) := by decide +kernel
theorem d_M_note_36 : decode (ab_bc mt_M_note) 36 = .ok (.iload_n 1, 1) := by decide +kernel
theorem d_M_note_37 : decode (ab_bc mt_M_note) 37 = .ok (.iastore, 1) := by decide +kernel
theorem d_M_note_38 : decode (ab_bc mt_M_note) 38 = .ok (.aload_n 0, 1) := by decide +kernel
theorem d_M_note_39 : decode (ab_bc mt_M_note) 39 = .ok (.getfield 87, 3) := by decide +kernel
theorem d_M_note_42 : decode (ab_bc mt_M_note) 42 = .ok (.aload_n 0, 1) := by decide +kernel
theorem d_M_note_43 : decode (ab_bc mt_M_note) 43 = .ok (.getfield 215, 3) := by decide +kernel
theorem d_M_note_46 : decode (ab_bc mt_M_note) 46 = .ok (.iload_n 2, 1) := by decide +kernel
theorem d_M_note_47 : decode (ab_bc mt_M_note) 47 = .ok (.ifCond .eq 7, 3) := by decide +kernel
theorem d_M_note_50 : decode (ab_bc mt_M_note) 50 = .ok (.iconst 1, 1) := by decide +kernel
theorem d_M_note_51 : decode (ab_bc mt_M_note) 51 = .ok (.goto 4, 3) := by decide +kernel
theorem d_M_note_54 : decode (ab_bc mt_M_note) 54 = .ok (.iconst 0, 1) := by decide +kernel
theorem d_M_note_55 : decode (ab_bc mt_M_note) 55 = .ok (.iastore, 1) := by decide +kernel
theorem d_M_note_56 : decode (ab_bc mt_M_note) 56 = .ok (.aload_n 0, 1) := by decide +kernel
theorem d_M_note_57 : decode (ab_bc mt_M_note) 57 = .ok (.dup, 1) := by decide +kernel
theorem d_M_note_58 : decode (ab_bc mt_M_note) 58 = .ok (.getfield 215, 3) := by decide +kernel
theorem d_M_note_61 : decode (ab_bc mt_M_note) 61 = .ok (.iconst 1, 1) := by decide +kernel
theorem d_M_note_62 : decode (ab_bc mt_M_note) 62 = .ok (.iadd, 1) := by decide +kernel
theorem d_M_note_63 : decode (ab_bc mt_M_note) 63 = .ok (.putfield 215, 3) := by decide +kernel
theorem d_M_note_66 : decode (ab_bc mt_M_note) 66 = .ok (.aload_n 0, 1) := by decide +kernel
theorem d_M_note_67 : decode (ab_bc mt_M_note) 67 = .ok (.getfield 215, 3) := by decide +kernel
theorem d_M_note_70 : decode (ab_bc mt_M_note) 70 = .ok (.ireturn, 1) := by decide +kernel
-- CableKeeperModel.note(IZ)I over mx
theorem q_M_note_0 {w : ab_Wd} {d n nc ns : Nat} {I : Nat → Nat → Int32} {L : Nat → Nat → Int64} {res : ab_Re} (v1 : Int32) (v2 : Int32) (hc : nc ≤ res.2.2.2.2.2.1) (hs : ns ≤ res.2.2.2.2.2.2)
    (h : (((I mx 43) = 8 → (ab_E w (d + 1) mt_M_note 22 [.ref mx, .int v1, .int v2] [] ((ab_up I mx 1 0), L, ab_RR, n, nc, ns) res)) ∧ (¬ (I mx 43) = 8 → (∃ (r2 : Int32), ab_C w d mt_M_isCable [.ref mx, .int v1] ((ab_up I mx 1 0), L, ab_RR, n, nc, ns) (.inl (some (.int r2)), ((ab_up I mx 1 0), L, ab_RR, n, nc, ns)) ∧ ((¬ r2 = 0 → ((vp_in (I mx 43) 8) ∧ ((v2 = 0 → (ab_E w (d + 1) mt_M_note 55 [.ref mx, .int v1, .int v2] [.int 0, .int (I mx 43), .ref mx_notedIn] ((ab_up (ab_up I mx 1 0) mx_notedCable (I mx 43).toNatClampNeg v1), L, ab_RR, n, nc, ns) res)) ∧ (¬ v2 = 0 → (ab_E w (d + 1) mt_M_note 55 [.ref mx, .int v1, .int v2] [.int 1, .int (I mx 43), .ref mx_notedIn] ((ab_up (ab_up I mx 1 0) mx_notedCable (I mx 43).toNatClampNeg v1), L, ab_RR, n, nc, ns) res))))) ∧ (r2 = 0 → (ab_E w (d + 1) mt_M_note 22 [.ref mx, .int v1, .int v2] [] ((ab_up I mx 1 0), L, ab_RR, n, nc, ns) res))))))) : ab_E w (d + 1) mt_M_note 0 [.ref mx, .int v1, .int v2] [] (I, L, ab_RR, n, nc, ns) res := by
  refine ab_aload_n (i := 0) d_M_note_0 rfl rfl ?_
  refine ab_iconst (v := 0) d_M_note_1 rfl ?_
  refine ab_putI (ci := 11) (k := 1) d_M_note_2 v_1369 rfl (by decide) (by decide) rfl (Or.inl rfl) rfl rfl ?_
  refine ab_aload_n (i := 0) d_M_note_5 rfl rfl ?_
  refine ab_getI (ci := 11) (k := 43) d_M_note_6 v_1411 rfl (by decide) (by decide) rfl ?_
  refine ab_bipush (v := 8) d_M_note_9 rfl ?_
  refine ab_icmp_eq (tgt := 22) d_M_note_11 (by decide) (fun c1 => ?_) (fun c1 => ?_)
  · have h := h.1 c1
    exact h
  · have h := h.2 c1
    refine ab_aload_n (i := 0) d_M_note_14 rfl rfl ?_
    refine ab_iload_n (i := 1) d_M_note_15 rfl rfl ?_
    obtain ⟨r2, hC, h⟩ := h
    refine ab_callV (me2 := mt_M_isCable) (b := mx) (as := [.int v1]) (st := []) (rv := (some (.int r2))) (M2 := ((ab_up I mx 1 0), L, ab_RR, n, nc, ns)) d_M_note_16 ce_M_isCable v_1748 v_1750 v_105 (by decide) rfl (Nat.le_of_ble_eq_true rfl) hC (Nat.le_refl _) (Nat.le_refl _) hc hs (fun j h9 => by cases h9) (fun _ _ => rfl) ?_
    show ab_E w (d + 1) mt_M_note 19 [.ref mx, .int v1, .int v2] [.int r2] ((ab_up I mx 1 0), L, ab_RR, n, nc, ns) res
    refine ab_if_ne (tgt := 28) d_M_note_19 (by decide) (fun c3 => ?_) (fun c3 => ?_)
    · have h := h.1 c3
      refine ab_aload_n (i := 0) d_M_note_28 rfl rfl ?_
      refine ab_getR (ci := 11) (k := 44) (j := mx_notedCable) d_M_note_29 v_1412 rfl (by decide) (by decide) rfl r_mx_44 ?_
      refine ab_aload_n (i := 0) d_M_note_32 rfl rfl ?_
      refine ab_getI (ci := 11) (k := 43) d_M_note_33 v_1411 rfl (by decide) (by decide) rfl ?_
      refine ab_iload_n (i := 1) d_M_note_36 rfl rfl ?_
      have g4 := h.1; have h := h.2
      refine ab_iast d_M_note_37 rfl rfl g4 ?_
      refine ab_aload_n (i := 0) d_M_note_38 rfl rfl ?_
      refine ab_getR (ci := 11) (k := 45) (j := mx_notedIn) d_M_note_39 v_1413 rfl (by decide) (by decide) rfl r_mx_45 ?_
      refine ab_aload_n (i := 0) d_M_note_42 rfl rfl ?_
      refine ab_getI (ci := 11) (k := 43) d_M_note_43 v_1411 rfl (by decide) (by decide) rfl ?_
      refine ab_iload_n (i := 2) d_M_note_46 rfl rfl ?_
      refine ab_if_eq (tgt := 54) d_M_note_47 (by decide) (fun c5 => ?_) (fun c5 => ?_)
      · have h := h.1 c5
        refine ab_iconst (v := 0) d_M_note_54 rfl ?_
        exact h
      · have h := h.2 c5
        refine ab_iconst (v := 1) d_M_note_50 rfl ?_
        refine ab_goto (tgt := 55) d_M_note_51 (by decide) ?_
        exact h
    · have h := h.2 c3
      exact h
theorem q_M_note_22 {w : ab_Wd} {d n nc ns : Nat} {I : Nat → Nat → Int32} {L : Nat → Nat → Int64} {res : ab_Re} (v1 : Int32) (v2 : Int32) (hc : nc ≤ res.2.2.2.2.2.1) (hs : ns ≤ res.2.2.2.2.2.2)
    (h : ∃ (r1 : Int32) (I2 : Nat → Nat → Int32), ab_C w d mt_M_refuse [.ref mx, .int 2] (I, L, ab_RR, n, nc, ns) (.inl (some (.int r1)), (I2, L, ab_RR, n, nc, ns)) ∧ res = (.inl (some (.int r1)), (I2, L, ab_RR, n, nc, ns))) : ab_E w (d + 1) mt_M_note 22 [.ref mx, .int v1, .int v2] [] (I, L, ab_RR, n, nc, ns) res := by
  refine ab_aload_n (i := 0) d_M_note_22 rfl rfl ?_
  refine ab_iconst (v := 2) d_M_note_23 rfl ?_
  obtain ⟨r1, I2, hC, h⟩ := h
  refine ab_callV (me2 := mt_M_refuse) (b := mx) (as := [.int 2]) (st := []) (rv := (some (.int r1))) (M2 := (I2, L, ab_RR, n, nc, ns)) d_M_note_24 ce_M_refuse v_1900 v_1902 v_128 (by decide) rfl (Nat.le_of_ble_eq_true rfl) hC (Nat.le_refl _) (Nat.le_refl _) hc hs (fun j h9 => by cases h9) (fun _ _ => rfl) ?_
  show ab_E w (d + 1) mt_M_note 27 [.ref mx, .int v1, .int v2] [.int r1] (I2, L, ab_RR, n, nc, ns) res
  exact ab_iret (ty := .int) d_M_note_27 rfl rfl h
theorem q_M_note_55 {w : ab_Wd} {d n nc ns : Nat} {I : Nat → Nat → Int32} {L : Nat → Nat → Int64} {res : ab_Re} (v1 : Int32) (v2 : Int32) (s1 : Int32) (s2 : Int32) (hc : nc ≤ res.2.2.2.2.2.1) (hs : ns ≤ res.2.2.2.2.2.2)
    (h : (vp_in s1 8) ∧ res = (.inl (some (.int ((I mx 43) + 1))), ((ab_up (ab_up I mx_notedIn s1.toNatClampNeg s2) mx 43 ((I mx 43) + 1)), L, ab_RR, n, nc, ns))) : ab_E w (d + 1) mt_M_note 55 [.ref mx, .int v1, .int v2] [.int s2, .int s1, .ref mx_notedIn] (I, L, ab_RR, n, nc, ns) res := by
  have g1 := h.1; have h := h.2
  refine ab_iast d_M_note_55 rfl rfl g1 ?_
  refine ab_aload_n (i := 0) d_M_note_56 rfl rfl ?_
  refine ab_dupr d_M_note_57 ?_
  refine ab_getI (ci := 11) (k := 43) d_M_note_58 v_1411 rfl (by decide) (by decide) rfl ?_
  refine ab_iconst (v := 1) d_M_note_61 rfl ?_
  refine ab_iadd d_M_note_62 ?_
  refine ab_putI (ci := 11) (k := 43) d_M_note_63 v_1411 rfl (by decide) (by decide) rfl (Or.inl rfl) rfl rfl ?_
  refine ab_aload_n (i := 0) d_M_note_66 rfl rfl ?_
  refine ab_getI (ci := 11) (k := 43) d_M_note_67 v_1411 rfl (by decide) (by decide) rfl ?_
  exact ab_iret (ty := .int) d_M_note_70 rfl rfl h
theorem d_M_forget_0 : decode (ab_bc mt_M_forget) 0 = .ok (.aload_n 0, 1) := by decide +kernel
theorem d_M_forget_1 : decode (ab_bc mt_M_forget) 1 = .ok (.iconst 0, 1) := by decide +kernel
theorem d_M_forget_2 : decode (ab_bc mt_M_forget) 2 = .ok (.putfield 108, 3) := by decide +kernel
theorem d_M_forget_5 : decode (ab_bc mt_M_forget) 5 = .ok (.aload_n 0, 1) := by decide +kernel
theorem d_M_forget_6 : decode (ab_bc mt_M_forget) 6 = .ok (.iconst 0, 1) := by decide +kernel
theorem d_M_forget_7 : decode (ab_bc mt_M_forget) 7 = .ok (.putfield 215, 3) := by decide +kernel
theorem d_M_forget_10 : decode (ab_bc mt_M_forget) 10 = .ok (.return_, 1) := by decide +kernel
-- CableKeeperModel.forget()V over mx
theorem q_M_forget_0 {w : ab_Wd} {d n nc ns : Nat} {I : Nat → Nat → Int32} {L : Nat → Nat → Int64} {res : ab_Re}  (hc : nc ≤ res.2.2.2.2.2.1) (hs : ns ≤ res.2.2.2.2.2.2)
    (h : res = (.inl none, ((ab_up (ab_up I mx 1 0) mx 43 0), L, ab_RR, n, nc, ns))) : ab_E w d mt_M_forget 0 [.ref mx] [] (I, L, ab_RR, n, nc, ns) res := by
  refine ab_aload_n (i := 0) d_M_forget_0 rfl rfl ?_
  refine ab_iconst (v := 0) d_M_forget_1 rfl ?_
  refine ab_putI (ci := 11) (k := 1) d_M_forget_2 v_1369 rfl (by decide) (by decide) rfl (Or.inl rfl) rfl rfl ?_
  refine ab_aload_n (i := 0) d_M_forget_5 rfl rfl ?_
  refine ab_iconst (v := 0) d_M_forget_6 rfl ?_
  refine ab_putI (ci := 11) (k := 43) d_M_forget_7 v_1411 rfl (by decide) (by decide) rfl (Or.inl rfl) rfl rfl ?_
  exact ab_vret d_M_forget_10 rfl h
theorem d_M_isAsNoted_0 : decode (ab_bc mt_M_isAsNoted) 0 = .ok (.iconst 1, 1) := by decide +kernel
theorem d_M_isAsNoted_1 : decode (ab_bc mt_M_isAsNoted) 1 = .ok (.istore_n 2, 1) := by decide +kernel
theorem d_M_isAsNoted_2 : decode (ab_bc mt_M_isAsNoted) 2 = .ok (.iconst 0, 1) := by decide +kernel
theorem d_M_isAsNoted_3 : decode (ab_bc mt_M_isAsNoted) 3 = .ok (.istore_n 3, 1) := by decide +kernel
theorem d_M_isAsNoted_4 : decode (ab_bc mt_M_isAsNoted) 4 = .ok (.iload_n 3, 1) := by decide +kernel
theorem d_M_isAsNoted_5 : decode (ab_bc mt_M_isAsNoted) 5 = .ok (.aload_n 0, 1) := by decide +kernel
theorem d_M_isAsNoted_6 : decode (ab_bc mt_M_isAsNoted) 6 = .ok (.getfield 215, 3) := by decide +kernel
theorem d_M_isAsNoted_9 : decode (ab_bc mt_M_isAsNoted) 9 = .ok (.if_icmp .ge 38, 3) := by decide +kernel
theorem d_M_isAsNoted_12 : decode (ab_bc mt_M_isAsNoted) 12 = .ok (.iload_n 2, 1) := by decide +kernel
theorem d_M_isAsNoted_13 : decode (ab_bc mt_M_isAsNoted) 13 = .ok (.ifCond .eq 26, 3) := by decide +kernel
theorem d_M_isAsNoted_16 : decode (ab_bc mt_M_isAsNoted) 16 = .ok (.iload_n 1, 1) := by decide +kernel
theorem d_M_isAsNoted_17 : decode (ab_bc mt_M_isAsNoted) 17 = .ok (.aload_n 0, 1) := by decide +kernel
theorem d_M_isAsNoted_18 : decode (ab_bc mt_M_isAsNoted) 18 = .ok (.getfield 84, 3) := by decide +kernel
theorem d_M_isAsNoted_21 : decode (ab_bc mt_M_isAsNoted) 21 = .ok (.iload_n 3, 1) := by decide +kernel
theorem d_M_isAsNoted_22 : decode (ab_bc mt_M_isAsNoted) 22 = .ok (.iaload, 1) := by decide +kernel
theorem d_M_isAsNoted_23 : decode (ab_bc mt_M_isAsNoted) 23 = .ok (.ishr, 1) := by decide +kernel
theorem d_M_isAsNoted_24 : decode (ab_bc mt_M_isAsNoted) 24 = .ok (.iconst 1, 1) := by decide +kernel
theorem d_M_isAsNoted_25 : decode (ab_bc mt_M_isAsNoted) 25 = .ok (.iand, 1) := by decide +kernel
theorem d_M_isAsNoted_26 : decode (ab_bc mt_M_isAsNoted) 26 = .ok (.aload_n 0, 1) := by decide +kernel
theorem d_M_isAsNoted_27 : decode (ab_bc mt_M_isAsNoted) 27 = .ok (.getfield 87, 3) := by decide +kernel
theorem d_M_isAsNoted_30 : decode (ab_bc mt_M_isAsNoted) 30 = .ok (.iload_n 3, 1) := by decide +kernel
theorem d_M_isAsNoted_31 : decode (ab_bc mt_M_isAsNoted) 31 = .ok (.iaload, 1) := by decide +kernel
theorem d_M_isAsNoted_32 : decode (ab_bc mt_M_isAsNoted) 32 = .ok (.if_icmp .ne 7, 3) := by decide +kernel
theorem d_M_isAsNoted_35 : decode (ab_bc mt_M_isAsNoted) 35 = .ok (.iconst 1, 1) := by decide +kernel
theorem d_M_isAsNoted_36 : decode (ab_bc mt_M_isAsNoted) 36 = .ok (.goto 4, 3) := by decide +kernel
theorem d_M_isAsNoted_39 : decode (ab_bc mt_M_isAsNoted) 39 = .ok (.iconst 0, 1) := by decide +kernel
theorem d_M_isAsNoted_40 : decode (ab_bc mt_M_isAsNoted) 40 = .ok (.istore_n 2, 1) := by decide +kernel
theorem d_M_isAsNoted_41 : decode (ab_bc mt_M_isAsNoted) 41 = .ok (.iinc 3 1, 3) := by decide +kernel
theorem d_M_isAsNoted_44 : decode (ab_bc mt_M_isAsNoted) 44 = .ok (.goto (-40), 3) := by decide +kernel
theorem d_M_isAsNoted_47 : decode (ab_bc mt_M_isAsNoted) 47 = .ok (.iload_n 2, 1) := by decide +kernel
theorem d_M_isAsNoted_48 : decode (ab_bc mt_M_isAsNoted) 48 = .ok (.ireturn, 1) := by decide +kernel
-- CableKeeperModel.isAsNoted(I)Z over mx
theorem q_M_isAsNoted_0 {w : ab_Wd} {d n nc ns : Nat} {I : Nat → Nat → Int32} {L : Nat → Nat → Int64} {res : ab_Re} (v1 : Int32) (hc : nc ≤ res.2.2.2.2.2.1) (hs : ns ≤ res.2.2.2.2.2.2)
    (h : ab_E w d mt_M_isAsNoted 4 [.ref mx, .int v1, .int 1, .int 0] [] (I, L, ab_RR, n, nc, ns) res) : ab_E w d mt_M_isAsNoted 0 [.ref mx, .int v1, .null, .null] [] (I, L, ab_RR, n, nc, ns) res := by
  refine ab_iconst (v := 1) d_M_isAsNoted_0 rfl ?_
  refine ab_istore_n (i := 2) d_M_isAsNoted_1 rfl (by decide) (Or.inr rfl) ?_
  refine ab_iconst (v := 0) d_M_isAsNoted_2 rfl ?_
  refine ab_istore_n (i := 3) d_M_isAsNoted_3 rfl (by decide) (Or.inr rfl) ?_
  exact h
theorem q_M_isAsNoted_4 {w : ab_Wd} {d n nc ns : Nat} {I : Nat → Nat → Int32} {L : Nat → Nat → Int64} {res : ab_Re} (v1 : Int32) (v2 : Int32) (v3 : Int32) (hc : nc ≤ res.2.2.2.2.2.1) (hs : ns ≤ res.2.2.2.2.2.2)
    (h : (((I mx 43) ≤ v3 → ((narrow .boolean (.int v2) = .int v2) ∧ res = (.inl (some (.int v2)), (I, L, ab_RR, n, nc, ns)))) ∧ (¬ (I mx 43) ≤ v3 → ((v2 = 0 → (ab_E w d mt_M_isAsNoted 39 [.ref mx, .int v1, .int v2, .int v3] [] (I, L, ab_RR, n, nc, ns) res)) ∧ (¬ v2 = 0 → ((vp_in v3 8) ∧ ((¬ ((v1 >>> ((I mx_notedCable v3.toNatClampNeg) &&& 31)) &&& 1) = (I mx_notedIn v3.toNatClampNeg) → (ab_E w d mt_M_isAsNoted 39 [.ref mx, .int v1, .int v2, .int v3] [] (I, L, ab_RR, n, nc, ns) res)) ∧ (((v1 >>> ((I mx_notedCable v3.toNatClampNeg) &&& 31)) &&& 1) = (I mx_notedIn v3.toNatClampNeg) → (ab_E w d mt_M_isAsNoted 40 [.ref mx, .int v1, .int v2, .int v3] [.int 1] (I, L, ab_RR, n, nc, ns) res))))))))) : ab_E w d mt_M_isAsNoted 4 [.ref mx, .int v1, .int v2, .int v3] [] (I, L, ab_RR, n, nc, ns) res := by
  refine ab_iload_n (i := 3) d_M_isAsNoted_4 rfl rfl ?_
  refine ab_aload_n (i := 0) d_M_isAsNoted_5 rfl rfl ?_
  refine ab_getI (ci := 11) (k := 43) d_M_isAsNoted_6 v_1411 rfl (by decide) (by decide) rfl ?_
  refine ab_icmp_ge (tgt := 47) d_M_isAsNoted_9 (by decide) (fun c1 => ?_) (fun c1 => ?_)
  · have h := h.1 c1
    refine ab_iload_n (i := 2) d_M_isAsNoted_47 rfl rfl ?_
    have g := h.1; have h := h.2
    exact ab_iret (ty := .boolean) d_M_isAsNoted_48 rfl g h
  · have h := h.2 c1
    refine ab_iload_n (i := 2) d_M_isAsNoted_12 rfl rfl ?_
    refine ab_if_eq (tgt := 39) d_M_isAsNoted_13 (by decide) (fun c2 => ?_) (fun c2 => ?_)
    · have h := h.1 c2
      exact h
    · have h := h.2 c2
      refine ab_iload_n (i := 1) d_M_isAsNoted_16 rfl rfl ?_
      refine ab_aload_n (i := 0) d_M_isAsNoted_17 rfl rfl ?_
      refine ab_getR (ci := 11) (k := 44) (j := mx_notedCable) d_M_isAsNoted_18 v_1412 rfl (by decide) (by decide) rfl r_mx_44 ?_
      refine ab_iload_n (i := 3) d_M_isAsNoted_21 rfl rfl ?_
      have g3 := h.1; have h := h.2
      refine ab_iald d_M_isAsNoted_22 rfl rfl g3 ?_
      refine ab_ishr d_M_isAsNoted_23 ?_
      refine ab_iconst (v := 1) d_M_isAsNoted_24 rfl ?_
      refine ab_iand d_M_isAsNoted_25 ?_
      refine ab_aload_n (i := 0) d_M_isAsNoted_26 rfl rfl ?_
      refine ab_getR (ci := 11) (k := 45) (j := mx_notedIn) d_M_isAsNoted_27 v_1413 rfl (by decide) (by decide) rfl r_mx_45 ?_
      refine ab_iload_n (i := 3) d_M_isAsNoted_30 rfl rfl ?_
      refine ab_iald d_M_isAsNoted_31 rfl rfl g3 ?_
      refine ab_icmp_ne (tgt := 39) d_M_isAsNoted_32 (by decide) (fun c4 => ?_) (fun c4 => ?_)
      · have h := h.1 c4
        exact h
      · have h := h.2 c4
        refine ab_iconst (v := 1) d_M_isAsNoted_35 rfl ?_
        refine ab_goto (tgt := 40) d_M_isAsNoted_36 (by decide) ?_
        exact h
theorem q_M_isAsNoted_39 {w : ab_Wd} {d n nc ns : Nat} {I : Nat → Nat → Int32} {L : Nat → Nat → Int64} {res : ab_Re} (v1 : Int32) (v2 : Int32) (v3 : Int32) (hc : nc ≤ res.2.2.2.2.2.1) (hs : ns ≤ res.2.2.2.2.2.2)
    (h : ab_E w d mt_M_isAsNoted 40 [.ref mx, .int v1, .int v2, .int v3] [.int 0] (I, L, ab_RR, n, nc, ns) res) : ab_E w d mt_M_isAsNoted 39 [.ref mx, .int v1, .int v2, .int v3] [] (I, L, ab_RR, n, nc, ns) res := by
  refine ab_iconst (v := 0) d_M_isAsNoted_39 rfl ?_
  exact h
theorem q_M_isAsNoted_40 {w : ab_Wd} {d n nc ns : Nat} {I : Nat → Nat → Int32} {L : Nat → Nat → Int64} {res : ab_Re} (v1 : Int32) (v2 : Int32) (v3 : Int32) (s0 : Int32) (hc : nc ≤ res.2.2.2.2.2.1) (hs : ns ≤ res.2.2.2.2.2.2)
    (h : ab_E w d mt_M_isAsNoted 4 [.ref mx, .int v1, .int s0, .int (v3 + 1)] [] (I, L, ab_RR, n, nc, ns) res) : ab_E w d mt_M_isAsNoted 40 [.ref mx, .int v1, .int v2, .int v3] [.int s0] (I, L, ab_RR, n, nc, ns) res := by
  refine ab_istore_n (i := 2) d_M_isAsNoted_40 rfl (by decide) (Or.inr rfl) ?_
  refine ab_iinc (i := 3) (v := (v3 + 1)) d_M_isAsNoted_41 rfl rfl (by decide) (Or.inr rfl) ?_
  refine ab_goto (tgt := 4) d_M_isAsNoted_44 (by decide) ?_
  exact h
theorem d_M_tellFits_0 : decode (ab_bc mt_M_tellFits) 0 = .ok (.aload_n 0, 1) := by decide +kernel
theorem d_M_tellFits_1 : decode (ab_bc mt_M_tellFits) 1 = .ok (.iload_n 1, 1) := by decide +kernel
theorem d_M_tellFits_2 : decode (ab_bc mt_M_tellFits) 2 = .ok (.invokevirtual 222, 3) := by decide +kernel
theorem d_M_tellFits_5 : decode (ab_bc mt_M_tellFits) 5 = .ok (.istore_n 2, 1) := by decide +kernel
theorem d_M_tellFits_6 : decode (ab_bc mt_M_tellFits) 6 = .ok (.aload_n 0, 1) := by decide +kernel
theorem d_M_tellFits_7 : decode (ab_bc mt_M_tellFits) 7 = .ok (.iconst 0, 1) := by decide +kernel
theorem d_M_tellFits_8 : decode (ab_bc mt_M_tellFits) 8 = .ok (.putfield 453, 3) := by decide +kernel
theorem d_M_tellFits_11 : decode (ab_bc mt_M_tellFits) 11 = .ok (.aload_n 0, 1) := by decide +kernel
theorem d_M_tellFits_12 : decode (ab_bc mt_M_tellFits) 12 = .ok (.iconst (-1), 1) := by decide +kernel
theorem d_M_tellFits_13 : decode (ab_bc mt_M_tellFits) 13 = .ok (.putfield 456, 3) := by decide +kernel
theorem d_M_tellFits_16 : decode (ab_bc mt_M_tellFits) 16 = .ok (.aload_n 0, 1) := by decide +kernel
theorem d_M_tellFits_17 : decode (ab_bc mt_M_tellFits) 17 = .ok (.iconst (-1), 1) := by decide +kernel
theorem d_M_tellFits_18 : decode (ab_bc mt_M_tellFits) 18 = .ok (.putfield 459, 3) := by decide +kernel
theorem d_M_tellFits_21 : decode (ab_bc mt_M_tellFits) 21 = .ok (.aload_n 0, 1) := by decide +kernel
theorem d_M_tellFits_22 : decode (ab_bc mt_M_tellFits) 22 = .ok (.iconst 0, 1) := by decide +kernel
theorem d_M_tellFits_23 : decode (ab_bc mt_M_tellFits) 23 = .ok (.putfield 462, 3) := by decide +kernel
theorem d_M_tellFits_26 : decode (ab_bc mt_M_tellFits) 26 = .ok (.sipush 999, 3) := by decide +kernel
theorem d_M_tellFits_29 : decode (ab_bc mt_M_tellFits) 29 = .ok (.istore_n 3, 1) := by decide +kernel
theorem d_M_tellFits_30 : decode (ab_bc mt_M_tellFits) 30 = .ok (.iload_n 3, 1) := by decide +kernel
theorem d_M_tellFits_31 : decode (ab_bc mt_M_tellFits) 31 = .ok (.ifCond .le 74, 3) := by decide +kernel
theorem d_M_tellFits_34 : decode (ab_bc mt_M_tellFits) 34 = .ok (.aload_n 0, 1) := by decide +kernel
theorem d_M_tellFits_35 : decode (ab_bc mt_M_tellFits) 35 = .ok (.getfield 24, 3) := by decide +kernel
theorem d_M_tellFits_38 : decode (ab_bc mt_M_tellFits) 38 = .ok (.bipush 51, 2) := by decide +kernel
theorem d_M_tellFits_40 : decode (ab_bc mt_M_tellFits) 40 = .ok (.iload_n 1, 1) := by decide +kernel
theorem d_M_tellFits_41 : decode (ab_bc mt_M_tellFits) 41 = .ok (.iadd, 1) := by decide +kernel
theorem d_M_tellFits_42 : decode (ab_bc mt_M_tellFits) 42 = .ok (.iload_n 3, 1) := by decide +kernel
theorem d_M_tellFits_43 : decode (ab_bc mt_M_tellFits) 43 = .ok (.iastore, 1) := by decide +kernel
theorem d_M_tellFits_44 : decode (ab_bc mt_M_tellFits) 44 = .ok (.aload_n 0, 1) := by decide +kernel
theorem d_M_tellFits_45 : decode (ab_bc mt_M_tellFits) 45 = .ok (.invokevirtual 251, 3) := by decide +kernel
theorem d_M_tellFits_48 : decode (ab_bc mt_M_tellFits) 48 = .ok (.istore 4, 2) := by decide +kernel
theorem d_M_tellFits_50 : decode (ab_bc mt_M_tellFits) 50 = .ok (.aload_n 0, 1) := by decide +kernel
theorem d_M_tellFits_51 : decode (ab_bc mt_M_tellFits) 51 = .ok (.iload 4, 2) := by decide +kernel
theorem d_M_tellFits_53 : decode (ab_bc mt_M_tellFits) 53 = .ok (.invokevirtual 465, 3) := by decide +kernel
theorem d_M_tellFits_56 : decode (ab_bc mt_M_tellFits) 56 = .ok (.ifCond .ne 6, 3) := by decide +kernel
theorem d_M_tellFits_59 : decode (ab_bc mt_M_tellFits) 59 = .ok (.goto 40, 3) := by decide +kernel
theorem d_M_tellFits_62 : decode (ab_bc mt_M_tellFits) 62 = .ok (.aload_n 0, 1) := by decide +kernel
theorem d_M_tellFits_63 : decode (ab_bc mt_M_tellFits) 63 = .ok (.dup, 1) := by decide +kernel
theorem d_M_tellFits_64 : decode (ab_bc mt_M_tellFits) 64 = .ok (.getfield 453, 3) := by decide +kernel
theorem d_M_tellFits_67 : decode (ab_bc mt_M_tellFits) 67 = .ok (.iconst 1, 1) := by decide +kernel
theorem d_M_tellFits_68 : decode (ab_bc mt_M_tellFits) 68 = .ok (.iadd, 1) := by decide +kernel
theorem d_M_tellFits_69 : decode (ab_bc mt_M_tellFits) 69 = .ok (.putfield 453, 3) := by decide +kernel
theorem d_M_tellFits_72 : decode (ab_bc mt_M_tellFits) 72 = .ok (.aload_n 0, 1) := by decide +kernel
theorem d_M_tellFits_73 : decode (ab_bc mt_M_tellFits) 73 = .ok (.iload_n 3, 1) := by decide +kernel
theorem d_M_tellFits_74 : decode (ab_bc mt_M_tellFits) 74 = .ok (.putfield 456, 3) := by decide +kernel
theorem d_M_tellFits_77 : decode (ab_bc mt_M_tellFits) 77 = .ok (.aload_n 0, 1) := by decide +kernel
theorem d_M_tellFits_78 : decode (ab_bc mt_M_tellFits) 78 = .ok (.dup, 1) := by decide +kernel
theorem d_M_tellFits_79 : decode (ab_bc mt_M_tellFits) 79 = .ok (.getfield 459, 3) := by decide +kernel
theorem d_M_tellFits_82 : decode (ab_bc mt_M_tellFits) 82 = .ok (.iload 4, 2) := by decide +kernel
theorem d_M_tellFits_84 : decode (ab_bc mt_M_tellFits) 84 = .ok (.iand, 1) := by decide +kernel
theorem d_M_tellFits_85 : decode (ab_bc mt_M_tellFits) 85 = .ok (.putfield 459, 3) := by decide +kernel
theorem d_M_tellFits_88 : decode (ab_bc mt_M_tellFits) 88 = .ok (.aload_n 0, 1) := by decide +kernel
theorem d_M_tellFits_89 : decode (ab_bc mt_M_tellFits) 89 = .ok (.dup, 1) := by decide +kernel
theorem d_M_tellFits_90 : decode (ab_bc mt_M_tellFits) 90 = .ok (.getfield 462, 3) := by decide +kernel
theorem d_M_tellFits_93 : decode (ab_bc mt_M_tellFits) 93 = .ok (.iload 4, 2) := by decide +kernel
theorem d_M_tellFits_95 : decode (ab_bc mt_M_tellFits) 95 = .ok (.ior, 1) := by decide +kernel
theorem d_M_tellFits_96 : decode (ab_bc mt_M_tellFits) 96 = .ok (.putfield 462, 3) := by decide +kernel
theorem d_M_tellFits_99 : decode (ab_bc mt_M_tellFits) 99 = .ok (.iinc 3 (-1), 3) := by decide +kernel
theorem d_M_tellFits_102 : decode (ab_bc mt_M_tellFits) 102 = .ok (.goto (-72), 3) := by decide +kernel
theorem d_M_tellFits_105 : decode (ab_bc mt_M_tellFits) 105 = .ok (.aload_n 0, 1) := by decide +kernel
theorem d_M_tellFits_106 : decode (ab_bc mt_M_tellFits) 106 = .ok (.getfield 24, 3) := by decide +kernel
theorem d_M_tellFits_109 : decode (ab_bc mt_M_tellFits) 109 = .ok (.bipush 51, 2) := by decide +kernel
theorem d_M_tellFits_111 : decode (ab_bc mt_M_tellFits) 111 = .ok (.iload_n 1, 1) := by decide +kernel
theorem d_M_tellFits_112 : decode (ab_bc mt_M_tellFits) 112 = .ok (.iadd, 1) := by decide +kernel
theorem d_M_tellFits_113 : decode (ab_bc mt_M_tellFits) 113 = .ok (.iload_n 2, 1) := by decide +kernel
theorem d_M_tellFits_114 : decode (ab_bc mt_M_tellFits) 114 = .ok (.iastore, 1) := by decide +kernel
theorem d_M_tellFits_115 : decode (ab_bc mt_M_tellFits) 115 = .ok (.return_, 1) := by decide +kernel
-- CableKeeperModel.tellFits(I)V over mx
theorem q_M_tellFits_0 {w : ab_Wd} {d n nc ns : Nat} {I : Nat → Nat → Int32} {L : Nat → Nat → Int64} {res : ab_Re} (v1 : Int32) (hc : nc ≤ res.2.2.2.2.2.1) (hs : ns ≤ res.2.2.2.2.2.2)
    (h : ∃ (r1 : Int32), ab_C w d mt_M_priceOf [.ref mx, .int v1] (I, L, ab_RR, n, nc, ns) (.inl (some (.int r1)), (I, L, ab_RR, n, nc, ns)) ∧ ab_E w (d + 1) mt_M_tellFits 30 [.ref mx, .int v1, .int r1, .int 999, .null] [] ((ab_up (ab_up (ab_up (ab_up I mx 46 0) mx 47 (-1)) mx 48 (-1)) mx 49 0), L, ab_RR, n, nc, ns) res) : ab_E w (d + 1) mt_M_tellFits 0 [.ref mx, .int v1, .null, .null, .null] [] (I, L, ab_RR, n, nc, ns) res := by
  refine ab_aload_n (i := 0) d_M_tellFits_0 rfl rfl ?_
  refine ab_iload_n (i := 1) d_M_tellFits_1 rfl rfl ?_
  obtain ⟨r1, hC, h⟩ := h
  refine ab_callV (me2 := mt_M_priceOf) (b := mx) (as := [.int v1]) (st := []) (rv := (some (.int r1))) (M2 := (I, L, ab_RR, n, nc, ns)) d_M_tellFits_2 ce_M_priceOf v_1654 v_1656 v_83 (by decide) rfl (Nat.le_of_ble_eq_true rfl) hC (Nat.le_refl _) (Nat.le_refl _) hc hs (fun j h9 => by cases h9) (fun _ _ => rfl) ?_
  show ab_E w (d + 1) mt_M_tellFits 5 [.ref mx, .int v1, .null, .null, .null] [.int r1] (I, L, ab_RR, n, nc, ns) res
  refine ab_istore_n (i := 2) d_M_tellFits_5 rfl (by decide) (Or.inr rfl) ?_
  refine ab_aload_n (i := 0) d_M_tellFits_6 rfl rfl ?_
  refine ab_iconst (v := 0) d_M_tellFits_7 rfl ?_
  refine ab_putI (ci := 11) (k := 46) d_M_tellFits_8 v_1414 rfl (by decide) (by decide) rfl (Or.inl rfl) rfl rfl ?_
  refine ab_aload_n (i := 0) d_M_tellFits_11 rfl rfl ?_
  refine ab_iconst (v := (-1)) d_M_tellFits_12 rfl ?_
  refine ab_putI (ci := 11) (k := 47) d_M_tellFits_13 v_1415 rfl (by decide) (by decide) rfl (Or.inl rfl) rfl rfl ?_
  refine ab_aload_n (i := 0) d_M_tellFits_16 rfl rfl ?_
  refine ab_iconst (v := (-1)) d_M_tellFits_17 rfl ?_
  refine ab_putI (ci := 11) (k := 48) d_M_tellFits_18 v_1416 rfl (by decide) (by decide) rfl (Or.inl rfl) rfl rfl ?_
  refine ab_aload_n (i := 0) d_M_tellFits_21 rfl rfl ?_
  refine ab_iconst (v := 0) d_M_tellFits_22 rfl ?_
  refine ab_putI (ci := 11) (k := 49) d_M_tellFits_23 v_1417 rfl (by decide) (by decide) rfl (Or.inl rfl) rfl rfl ?_
  refine ab_sipush (v := 999) d_M_tellFits_26 rfl ?_
  refine ab_istore_n (i := 3) d_M_tellFits_29 rfl (by decide) (Or.inr rfl) ?_
  exact h
theorem q_M_tellFits_30 {w : ab_Wd} {d n nc ns : Nat} {I : Nat → Nat → Int32} {L : Nat → Nat → Int64} {res : ab_Re} (v1 : Int32) (v2 : Int32) (v3 : Int32) (hc : nc ≤ res.2.2.2.2.2.1) (hs : ns ≤ res.2.2.2.2.2.2)
    (h : ((v3 ≤ 0 → ((vp_in (51 + v1) 399) ∧ res = (.inl none, ((ab_up I mx_now (51 + v1).toNatClampNeg v2), L, ab_RR, n, nc, ns)))) ∧ (¬ v3 ≤ 0 → ((vp_in (51 + v1) 399) ∧ ∃ (r4 : Int32) (I5 : Nat → Nat → Int32), ab_C w d mt_M_netNow [.ref mx] ((ab_up I mx_now (51 + v1).toNatClampNeg v3), L, ab_RR, n, nc, ns) (.inl (some (.int r4)), (I5, L, ab_RR, n, nc, ns)) ∧ ∃ (r6 : Int32), ab_C w d mt_M_isAsNoted [.ref mx, .int r4] (I5, L, ab_RR, n, nc, ns) (.inl (some (.int r6)), (I5, L, ab_RR, n, nc, ns)) ∧ ((¬ r6 = 0 → (ab_E w (d + 1) mt_M_tellFits 99 [.ref mx, .int v1, .int v2, .int v3, .int r4] [] ((ab_up (ab_up (ab_up (ab_up I5 mx 46 ((I5 mx 46) + 1)) mx 47 v3) mx 48 ((I5 mx 48) &&& r4)) mx 49 ((I5 mx 49) ||| r4)), L, ab_RR, n, nc, ns) res)) ∧ (r6 = 0 → (ab_E w (d + 1) mt_M_tellFits 99 [.ref mx, .int v1, .int v2, .int v3, .int r4] [] (I5, L, ab_RR, n, nc, ns) res))))))) : ab_E w (d + 1) mt_M_tellFits 30 [.ref mx, .int v1, .int v2, .int v3, .null] [] (I, L, ab_RR, n, nc, ns) res := by
  refine ab_iload_n (i := 3) d_M_tellFits_30 rfl rfl ?_
  refine ab_if_le (tgt := 105) d_M_tellFits_31 (by decide) (fun c1 => ?_) (fun c1 => ?_)
  · have h := h.1 c1
    refine ab_aload_n (i := 0) d_M_tellFits_105 rfl rfl ?_
    refine ab_getR (ci := 11) (k := 4) (j := mx_now) d_M_tellFits_106 v_1372 rfl (by decide) (by decide) rfl r_mx_4 ?_
    refine ab_bipush (v := 51) d_M_tellFits_109 rfl ?_
    refine ab_iload_n (i := 1) d_M_tellFits_111 rfl rfl ?_
    refine ab_iadd d_M_tellFits_112 ?_
    refine ab_iload_n (i := 2) d_M_tellFits_113 rfl rfl ?_
    have g2 := h.1; have h := h.2
    refine ab_iast d_M_tellFits_114 rfl rfl g2 ?_
    exact ab_vret d_M_tellFits_115 rfl h
  · have h := h.2 c1
    refine ab_aload_n (i := 0) d_M_tellFits_34 rfl rfl ?_
    refine ab_getR (ci := 11) (k := 4) (j := mx_now) d_M_tellFits_35 v_1372 rfl (by decide) (by decide) rfl r_mx_4 ?_
    refine ab_bipush (v := 51) d_M_tellFits_38 rfl ?_
    refine ab_iload_n (i := 1) d_M_tellFits_40 rfl rfl ?_
    refine ab_iadd d_M_tellFits_41 ?_
    refine ab_iload_n (i := 3) d_M_tellFits_42 rfl rfl ?_
    have g3 := h.1; have h := h.2
    refine ab_iast d_M_tellFits_43 rfl rfl g3 ?_
    refine ab_aload_n (i := 0) d_M_tellFits_44 rfl rfl ?_
    obtain ⟨r4, I5, hC, h⟩ := h
    refine ab_callV (me2 := mt_M_netNow) (b := mx) (as := []) (st := []) (rv := (some (.int r4))) (M2 := (I5, L, ab_RR, n, nc, ns)) d_M_tellFits_45 ce_M_netNow v_1639 v_1641 v_80 (by decide) rfl (Nat.le_of_ble_eq_true rfl) hC (Nat.le_refl _) (Nat.le_refl _) hc hs (fun j h9 => by cases h9) (fun _ _ => rfl) ?_
    show ab_E w (d + 1) mt_M_tellFits 48 [.ref mx, .int v1, .int v2, .int v3, .null] [.int r4] (I5, L, ab_RR, n, nc, ns) res
    refine ab_istore (i := 4) d_M_tellFits_48 (by decide) (Or.inr rfl) ?_
    refine ab_aload_n (i := 0) d_M_tellFits_50 rfl rfl ?_
    refine ab_iload (i := 4) d_M_tellFits_51 rfl ?_
    obtain ⟨r6, hC, h⟩ := h
    refine ab_callV (me2 := mt_M_isAsNoted) (b := mx) (as := [.int r4]) (st := []) (rv := (some (.int r6))) (M2 := (I5, L, ab_RR, n, nc, ns)) d_M_tellFits_53 ce_M_isAsNoted v_1968 v_1970 v_136 (by decide) rfl (Nat.le_of_ble_eq_true rfl) hC (Nat.le_refl _) (Nat.le_refl _) hc hs (fun j h9 => by cases h9) (fun _ _ => rfl) ?_
    show ab_E w (d + 1) mt_M_tellFits 56 [.ref mx, .int v1, .int v2, .int v3, .int r4] [.int r6] (I5, L, ab_RR, n, nc, ns) res
    refine ab_if_ne (tgt := 62) d_M_tellFits_56 (by decide) (fun c7 => ?_) (fun c7 => ?_)
    · have h := h.1 c7
      refine ab_aload_n (i := 0) d_M_tellFits_62 rfl rfl ?_
      refine ab_dupr d_M_tellFits_63 ?_
      refine ab_getI (ci := 11) (k := 46) d_M_tellFits_64 v_1414 rfl (by decide) (by decide) rfl ?_
      refine ab_iconst (v := 1) d_M_tellFits_67 rfl ?_
      refine ab_iadd d_M_tellFits_68 ?_
      refine ab_putI (ci := 11) (k := 46) d_M_tellFits_69 v_1414 rfl (by decide) (by decide) rfl (Or.inl rfl) rfl rfl ?_
      refine ab_aload_n (i := 0) d_M_tellFits_72 rfl rfl ?_
      refine ab_iload_n (i := 3) d_M_tellFits_73 rfl rfl ?_
      refine ab_putI (ci := 11) (k := 47) d_M_tellFits_74 v_1415 rfl (by decide) (by decide) rfl (Or.inl rfl) rfl rfl ?_
      refine ab_aload_n (i := 0) d_M_tellFits_77 rfl rfl ?_
      refine ab_dupr d_M_tellFits_78 ?_
      refine ab_getI (ci := 11) (k := 48) d_M_tellFits_79 v_1416 rfl (by decide) (by decide) rfl ?_
      refine ab_iload (i := 4) d_M_tellFits_82 rfl ?_
      refine ab_iand d_M_tellFits_84 ?_
      refine ab_putI (ci := 11) (k := 48) d_M_tellFits_85 v_1416 rfl (by decide) (by decide) rfl (Or.inl rfl) rfl rfl ?_
      refine ab_aload_n (i := 0) d_M_tellFits_88 rfl rfl ?_
      refine ab_dupr d_M_tellFits_89 ?_
      refine ab_getI (ci := 11) (k := 49) d_M_tellFits_90 v_1417 rfl (by decide) (by decide) rfl ?_
      refine ab_iload (i := 4) d_M_tellFits_93 rfl ?_
      refine ab_ior d_M_tellFits_95 ?_
      refine ab_putI (ci := 11) (k := 49) d_M_tellFits_96 v_1417 rfl (by decide) (by decide) rfl (Or.inl rfl) rfl rfl ?_
      exact h
    · have h := h.2 c7
      refine ab_goto (tgt := 99) d_M_tellFits_59 (by decide) ?_
      exact h
theorem q_M_tellFits_99 {w : ab_Wd} {d n nc ns : Nat} {I : Nat → Nat → Int32} {L : Nat → Nat → Int64} {res : ab_Re} (v1 : Int32) (v2 : Int32) (v3 : Int32) (v4 : Int32) (hc : nc ≤ res.2.2.2.2.2.1) (hs : ns ≤ res.2.2.2.2.2.2)
    (h : ab_E w (d + 1) mt_M_tellFits 30 [.ref mx, .int v1, .int v2, .int (v3 + (-1)), .null] [] (I, L, ab_RR, n, nc, ns) res) : ab_E w (d + 1) mt_M_tellFits 99 [.ref mx, .int v1, .int v2, .int v3, .int v4] [] (I, L, ab_RR, n, nc, ns) res := by
  refine ab_iinc (i := 3) (v := (v3 + (-1))) d_M_tellFits_99 rfl rfl (by decide) (Or.inr rfl) ?_
  refine ab_goto (tgt := 30) d_M_tellFits_102 (by decide) ?_
  refine ab_drop 4 ?_
  exact h
theorem d_M_fits_0 : decode (ab_bc mt_M_fits) 0 = .ok (.aload_n 0, 1) := by decide +kernel
theorem d_M_fits_1 : decode (ab_bc mt_M_fits) 1 = .ok (.iconst 0, 1) := by decide +kernel
theorem d_M_fits_2 : decode (ab_bc mt_M_fits) 2 = .ok (.putfield 108, 3) := by decide +kernel
theorem d_M_fits_5 : decode (ab_bc mt_M_fits) 5 = .ok (.aload_n 0, 1) := by decide +kernel
theorem d_M_fits_6 : decode (ab_bc mt_M_fits) 6 = .ok (.iload_n 1, 1) := by decide +kernel
theorem d_M_fits_7 : decode (ab_bc mt_M_fits) 7 = .ok (.invokevirtual 348, 3) := by decide +kernel
theorem d_M_fits_10 : decode (ab_bc mt_M_fits) 10 = .ok (.ifCond .eq 12, 3) := by decide +kernel
theorem d_M_fits_13 : decode (ab_bc mt_M_fits) 13 = .ok (.iload_n 2, 1) := by decide +kernel
theorem d_M_fits_14 : decode (ab_bc mt_M_fits) 14 = .ok (.iconst 0, 1) := by decide +kernel
theorem d_M_fits_15 : decode (ab_bc mt_M_fits) 15 = .ok (.iconst 1, 1) := by decide +kernel
theorem d_M_fits_16 : decode (ab_bc mt_M_fits) 16 = .ok (.invokestatic 344, 3) := by decide +kernel
theorem d_M_fits_19 : decode (ab_bc mt_M_fits) 19 = .ok (.ifCond .ne 9, 3) := by decide +kernel
theorem d_M_fits_22 : decode (ab_bc mt_M_fits) 22 = .ok (.aload_n 0, 1) := by decide +kernel
theorem d_M_fits_23 : decode (ab_bc mt_M_fits) 23 = .ok (.iconst 1, 1) := by decide +kernel
theorem d_M_fits_24 : decode (ab_bc mt_M_fits) 24 = .ok (.invokevirtual 202, 3) := by decide +kernel
theorem d_M_fits_27 : decode (ab_bc mt_M_fits) 27 = .ok (.ireturn, 1) := by decide +kernel
theorem d_M_fits_28 : decode (ab_bc mt_M_fits) 28 = .ok (.aload_n 0, 1) := by decide +kernel
theorem d_M_fits_29 : decode (ab_bc mt_M_fits) 29 = .ok (.iload_n 1, 1) := by decide +kernel
theorem d_M_fits_30 : decode (ab_bc mt_M_fits) 30 = .ok (.invokevirtual 262, 3) := by decide +kernel
theorem d_M_fits_33 : decode (ab_bc mt_M_fits) 33 = .ok (.ifCond .ne 9, 3) := by decide +kernel
theorem d_M_fits_36 : decode (ab_bc mt_M_fits) 36 = .ok (.aload_n 0, 1) := by decide +kernel
theorem d_M_fits_37 : decode (ab_bc mt_M_fits) 37 = .ok (.iconst 2, 1) := by decide +kernel
theorem d_M_fits_38 : decode (ab_bc mt_M_fits) 38 = .ok (.invokevirtual 202, 3) := by decide +kernel
theorem d_M_fits_41 : decode (ab_bc mt_M_fits) 41 = .ok (.ireturn, 1) := by decide +kernel
theorem d_M_fits_42 : decode (ab_bc mt_M_fits) 42 = .ok (.aload_n 0, 1) := by decide +kernel
theorem d_M_fits_43 : decode (ab_bc mt_M_fits) 43 = .ok (.iload_n 1, 1) := by decide +kernel
theorem d_M_fits_44 : decode (ab_bc mt_M_fits) 44 = .ok (.invokevirtual 468, 3) := by decide +kernel
theorem d_M_fits_47 : decode (ab_bc mt_M_fits) 47 = .ok (.iload_n 2, 1) := by decide +kernel
theorem d_M_fits_48 : decode (ab_bc mt_M_fits) 48 = .ok (.ifCond .ne 10, 3) := by decide +kernel
theorem d_M_fits_51 : decode (ab_bc mt_M_fits) 51 = .ok (.aload_n 0, 1) := by decide +kernel
theorem d_M_fits_52 : decode (ab_bc mt_M_fits) 52 = .ok (.getfield 453, 3) := by decide +kernel
theorem d_M_fits_55 : decode (ab_bc mt_M_fits) 55 = .ok (.goto 7, 3) := by decide +kernel
theorem d_M_fits_58 : decode (ab_bc mt_M_fits) 58 = .ok (.aload_n 0, 1) := by decide +kernel
theorem d_M_fits_59 : decode (ab_bc mt_M_fits) 59 = .ok (.getfield 456, 3) := by decide +kernel
theorem d_M_fits_62 : decode (ab_bc mt_M_fits) 62 = .ok (.ireturn, 1) := by decide +kernel
-- CableKeeperModel.fits(II)I over mx
theorem q_M_fits_0 {w : ab_Wd} {d n nc ns : Nat} {I : Nat → Nat → Int32} {L : Nat → Nat → Int64} {res : ab_Re} (v1 : Int32) (v2 : Int32) (hc : nc ≤ res.2.2.2.2.2.1) (hs : ns ≤ res.2.2.2.2.2.2)
    (h : ∃ (r1 : Int32), ab_C w d mt_M_isCable [.ref mx, .int v1] ((ab_up I mx 1 0), L, ab_RR, n, nc, ns) (.inl (some (.int r1)), ((ab_up I mx 1 0), L, ab_RR, n, nc, ns)) ∧ ((r1 = 0 → (ab_E w (d + 1) mt_M_fits 22 [.ref mx, .int v1, .int v2] [] ((ab_up I mx 1 0), L, ab_RR, n, nc, ns) res)) ∧ (¬ r1 = 0 → (∃ (r3 : Int32), ab_C w d mt_M_isIn [.int v2, .int 0, .int 1] ((ab_up I mx 1 0), L, ab_RR, n, nc, ns) (.inl (some (.int r3)), ((ab_up I mx 1 0), L, ab_RR, n, nc, ns)) ∧ ((¬ r3 = 0 → (∃ (r5 : Int32), ab_C w d mt_M_isSound [.ref mx, .int v1] ((ab_up I mx 1 0), L, ab_RR, n, nc, ns) (.inl (some (.int r5)), ((ab_up I mx 1 0), L, ab_RR, n, nc, ns)) ∧ ((¬ r5 = 0 → (∃ (I8 : Nat → Nat → Int32), ab_C w d mt_M_tellFits [.ref mx, .int v1] ((ab_up I mx 1 0), L, ab_RR, n, nc, ns) (.inl none, (I8, L, ab_RR, n, nc, ns)) ∧ ((¬ v2 = 0 → (ab_E w (d + 1) mt_M_fits 62 [.ref mx, .int v1, .int v2] [.int (I8 mx 47)] (I8, L, ab_RR, n, nc, ns) res)) ∧ (v2 = 0 → (ab_E w (d + 1) mt_M_fits 62 [.ref mx, .int v1, .int v2] [.int (I8 mx 46)] (I8, L, ab_RR, n, nc, ns) res))))) ∧ (r5 = 0 → (∃ (r10 : Int32) (I11 : Nat → Nat → Int32), ab_C w d mt_M_fail [.ref mx, .int 2] ((ab_up I mx 1 0), L, ab_RR, n, nc, ns) (.inl (some (.int r10)), (I11, L, ab_RR, n, nc, ns)) ∧ res = (.inl (some (.int r10)), (I11, L, ab_RR, n, nc, ns))))))) ∧ (r3 = 0 → (ab_E w (d + 1) mt_M_fits 22 [.ref mx, .int v1, .int v2] [] ((ab_up I mx 1 0), L, ab_RR, n, nc, ns) res))))))) : ab_E w (d + 1) mt_M_fits 0 [.ref mx, .int v1, .int v2] [] (I, L, ab_RR, n, nc, ns) res := by
  refine ab_aload_n (i := 0) d_M_fits_0 rfl rfl ?_
  refine ab_iconst (v := 0) d_M_fits_1 rfl ?_
  refine ab_putI (ci := 11) (k := 1) d_M_fits_2 v_1369 rfl (by decide) (by decide) rfl (Or.inl rfl) rfl rfl ?_
  refine ab_aload_n (i := 0) d_M_fits_5 rfl rfl ?_
  refine ab_iload_n (i := 1) d_M_fits_6 rfl rfl ?_
  obtain ⟨r1, hC, h⟩ := h
  refine ab_callV (me2 := mt_M_isCable) (b := mx) (as := [.int v1]) (st := []) (rv := (some (.int r1))) (M2 := ((ab_up I mx 1 0), L, ab_RR, n, nc, ns)) d_M_fits_7 ce_M_isCable v_1748 v_1750 v_105 (by decide) rfl (Nat.le_of_ble_eq_true rfl) hC (Nat.le_refl _) (Nat.le_refl _) hc hs (fun j h9 => by cases h9) (fun _ _ => rfl) ?_
  show ab_E w (d + 1) mt_M_fits 10 [.ref mx, .int v1, .int v2] [.int r1] ((ab_up I mx 1 0), L, ab_RR, n, nc, ns) res
  refine ab_if_eq (tgt := 22) d_M_fits_10 (by decide) (fun c2 => ?_) (fun c2 => ?_)
  · have h := h.1 c2
    exact h
  · have h := h.2 c2
    refine ab_iload_n (i := 2) d_M_fits_13 rfl rfl ?_
    refine ab_iconst (v := 0) d_M_fits_14 rfl ?_
    refine ab_iconst (v := 1) d_M_fits_15 rfl ?_
    obtain ⟨r3, hC, h⟩ := h
    refine ab_callS (me2 := mt_M_isIn) (as := [.int v2, .int 0, .int 1]) (st := []) (rv := (some (.int r3))) (M2 := ((ab_up I mx 1 0), L, ab_RR, n, nc, ns)) d_M_fits_16 ce_M_isIn ⟨v_1753, Or.inl v_1752⟩ (Nat.le_of_ble_eq_true rfl) hC (Nat.le_refl _) (Nat.le_refl _) hc hs (fun j h9 => by cases h9) (fun _ _ => rfl) ?_
    show ab_E w (d + 1) mt_M_fits 19 [.ref mx, .int v1, .int v2] [.int r3] ((ab_up I mx 1 0), L, ab_RR, n, nc, ns) res
    refine ab_if_ne (tgt := 28) d_M_fits_19 (by decide) (fun c4 => ?_) (fun c4 => ?_)
    · have h := h.1 c4
      refine ab_aload_n (i := 0) d_M_fits_28 rfl rfl ?_
      refine ab_iload_n (i := 1) d_M_fits_29 rfl rfl ?_
      obtain ⟨r5, hC, h⟩ := h
      refine ab_callV (me2 := mt_M_isSound) (b := mx) (as := [.int v1]) (st := []) (rv := (some (.int r5))) (M2 := ((ab_up I mx 1 0), L, ab_RR, n, nc, ns)) d_M_fits_30 ce_M_isSound v_1679 v_1681 v_89 (by decide) rfl (Nat.le_of_ble_eq_true rfl) hC (Nat.le_refl _) (Nat.le_refl _) hc hs (fun j h9 => by cases h9) (fun _ _ => rfl) ?_
      show ab_E w (d + 1) mt_M_fits 33 [.ref mx, .int v1, .int v2] [.int r5] ((ab_up I mx 1 0), L, ab_RR, n, nc, ns) res
      refine ab_if_ne (tgt := 42) d_M_fits_33 (by decide) (fun c6 => ?_) (fun c6 => ?_)
      · have h := h.1 c6
        refine ab_aload_n (i := 0) d_M_fits_42 rfl rfl ?_
        refine ab_iload_n (i := 1) d_M_fits_43 rfl rfl ?_
        obtain ⟨I8, hC, h⟩ := h
        refine ab_callV (me2 := mt_M_tellFits) (b := mx) (as := [.int v1]) (st := []) (rv := none) (M2 := (I8, L, ab_RR, n, nc, ns)) d_M_fits_44 ce_M_tellFits v_1964 v_1966 v_135 (by decide) rfl (Nat.le_of_ble_eq_true rfl) hC (Nat.le_refl _) (Nat.le_refl _) hc hs (fun j h9 => by cases h9) (fun _ _ => rfl) ?_
        show ab_E w (d + 1) mt_M_fits 47 [.ref mx, .int v1, .int v2] [] (I8, L, ab_RR, n, nc, ns) res
        refine ab_iload_n (i := 2) d_M_fits_47 rfl rfl ?_
        refine ab_if_ne (tgt := 58) d_M_fits_48 (by decide) (fun c9 => ?_) (fun c9 => ?_)
        · have h := h.1 c9
          refine ab_aload_n (i := 0) d_M_fits_58 rfl rfl ?_
          refine ab_getI (ci := 11) (k := 47) d_M_fits_59 v_1415 rfl (by decide) (by decide) rfl ?_
          exact h
        · have h := h.2 c9
          refine ab_aload_n (i := 0) d_M_fits_51 rfl rfl ?_
          refine ab_getI (ci := 11) (k := 46) d_M_fits_52 v_1414 rfl (by decide) (by decide) rfl ?_
          refine ab_goto (tgt := 62) d_M_fits_55 (by decide) ?_
          exact h
      · have h := h.2 c6
        refine ab_aload_n (i := 0) d_M_fits_36 rfl rfl ?_
        refine ab_iconst (v := 2) d_M_fits_37 rfl ?_
        obtain ⟨r10, I11, hC, h⟩ := h
        refine ab_callV (me2 := mt_M_fail) (b := mx) (as := [.int 2]) (st := []) (rv := (some (.int r10))) (M2 := (I11, L, ab_RR, n, nc, ns)) d_M_fits_38 ce_M_fail v_1562 v_1564 v_66 (by decide) rfl (Nat.le_of_ble_eq_true rfl) hC (Nat.le_refl _) (Nat.le_refl _) hc hs (fun j h9 => by cases h9) (fun _ _ => rfl) ?_
        show ab_E w (d + 1) mt_M_fits 41 [.ref mx, .int v1, .int v2] [.int r10] (I11, L, ab_RR, n, nc, ns) res
        exact ab_iret (ty := .int) d_M_fits_41 rfl rfl h
    · have h := h.2 c4
      exact h
theorem q_M_fits_22 {w : ab_Wd} {d n nc ns : Nat} {I : Nat → Nat → Int32} {L : Nat → Nat → Int64} {res : ab_Re} (v1 : Int32) (v2 : Int32) (hc : nc ≤ res.2.2.2.2.2.1) (hs : ns ≤ res.2.2.2.2.2.2)
    (h : ∃ (r1 : Int32) (I2 : Nat → Nat → Int32), ab_C w d mt_M_fail [.ref mx, .int 1] (I, L, ab_RR, n, nc, ns) (.inl (some (.int r1)), (I2, L, ab_RR, n, nc, ns)) ∧ res = (.inl (some (.int r1)), (I2, L, ab_RR, n, nc, ns))) : ab_E w (d + 1) mt_M_fits 22 [.ref mx, .int v1, .int v2] [] (I, L, ab_RR, n, nc, ns) res := by
  refine ab_aload_n (i := 0) d_M_fits_22 rfl rfl ?_
  refine ab_iconst (v := 1) d_M_fits_23 rfl ?_
  obtain ⟨r1, I2, hC, h⟩ := h
  refine ab_callV (me2 := mt_M_fail) (b := mx) (as := [.int 1]) (st := []) (rv := (some (.int r1))) (M2 := (I2, L, ab_RR, n, nc, ns)) d_M_fits_24 ce_M_fail v_1562 v_1564 v_66 (by decide) rfl (Nat.le_of_ble_eq_true rfl) hC (Nat.le_refl _) (Nat.le_refl _) hc hs (fun j h9 => by cases h9) (fun _ _ => rfl) ?_
  show ab_E w (d + 1) mt_M_fits 27 [.ref mx, .int v1, .int v2] [.int r1] (I2, L, ab_RR, n, nc, ns) res
  exact ab_iret (ty := .int) d_M_fits_27 rfl rfl h
theorem q_M_fits_62 {w : ab_Wd} {d n nc ns : Nat} {I : Nat → Nat → Int32} {L : Nat → Nat → Int64} {res : ab_Re} (v1 : Int32) (v2 : Int32) (s0 : Int32) (hc : nc ≤ res.2.2.2.2.2.1) (hs : ns ≤ res.2.2.2.2.2.2)
    (h : res = (.inl (some (.int s0)), (I, L, ab_RR, n, nc, ns))) : ab_E w (d + 1) mt_M_fits 62 [.ref mx, .int v1, .int v2] [.int s0] (I, L, ab_RR, n, nc, ns) res := by
  exact ab_iret (ty := .int) d_M_fits_62 rfl rfl h
theorem d_M_look_0 : decode (ab_bc mt_M_look) 0 = .ok (.aload_n 0, 1) := by decide +kernel
theorem d_M_look_1 : decode (ab_bc mt_M_look) 1 = .ok (.iconst 0, 1) := by decide +kernel
theorem d_M_look_2 : decode (ab_bc mt_M_look) 2 = .ok (.putfield 108, 3) := by decide +kernel
theorem d_M_look_5 : decode (ab_bc mt_M_look) 5 = .ok (.aload_n 0, 1) := by decide +kernel
theorem d_M_look_6 : decode (ab_bc mt_M_look) 6 = .ok (.iload_n 1, 1) := by decide +kernel
theorem d_M_look_7 : decode (ab_bc mt_M_look) 7 = .ok (.invokevirtual 348, 3) := by decide +kernel
theorem d_M_look_10 : decode (ab_bc mt_M_look) 10 = .ok (.ifCond .ne 9, 3) := by decide +kernel
theorem d_M_look_13 : decode (ab_bc mt_M_look) 13 = .ok (.aload_n 0, 1) := by decide +kernel
theorem d_M_look_14 : decode (ab_bc mt_M_look) 14 = .ok (.iconst 1, 1) := by decide +kernel
theorem d_M_look_15 : decode (ab_bc mt_M_look) 15 = .ok (.invokevirtual 202, 3) := by decide +kernel
theorem d_M_look_18 : decode (ab_bc mt_M_look) 18 = .ok (.ireturn, 1) := by decide +kernel
theorem d_M_look_19 : decode (ab_bc mt_M_look) 19 = .ok (.aload_n 0, 1) := by decide +kernel
theorem d_M_look_20 : decode (ab_bc mt_M_look) 20 = .ok (.iload_n 1, 1) := by decide +kernel
theorem d_M_look_21 : decode (ab_bc mt_M_look) 21 = .ok (.invokevirtual 262, 3) := by decide +kernel
theorem d_M_look_24 : decode (ab_bc mt_M_look) 24 = .ok (.ifCond .ne 9, 3) := by decide +kernel
theorem d_M_look_27 : decode (ab_bc mt_M_look) 27 = .ok (.aload_n 0, 1) := by decide +kernel
theorem d_M_look_28 : decode (ab_bc mt_M_look) 28 = .ok (.iconst 2, 1) := by decide +kernel
theorem d_M_look_29 : decode (ab_bc mt_M_look) 29 = .ok (.invokevirtual 202, 3) := by decide +kernel
theorem d_M_look_32 : decode (ab_bc mt_M_look) 32 = .ok (.ireturn, 1) := by decide +kernel
theorem d_M_look_33 : decode (ab_bc mt_M_look) 33 = .ok (.aload_n 0, 1) := by decide +kernel
theorem d_M_look_34 : decode (ab_bc mt_M_look) 34 = .ok (.iload_n 1, 1) := by decide +kernel
theorem d_M_look_35 : decode (ab_bc mt_M_look) 35 = .ok (.invokevirtual 468, 3) := by decide +kernel
theorem d_M_look_38 : decode (ab_bc mt_M_look) 38 = .ok (.aload_n 0, 1) := by decide +kernel
theorem d_M_look_39 : decode (ab_bc mt_M_look) 39 = .ok (.getfield 462, 3) := by decide +kernel
theorem d_M_look_42 : decode (ab_bc mt_M_look) 42 = .ok (.aload_n 0, 1) := by decide +kernel
theorem d_M_look_43 : decode (ab_bc mt_M_look) 43 = .ok (.getfield 459, 3) := by decide +kernel
theorem d_M_look_46 : decode (ab_bc mt_M_look) 46 = .ok (.iconst (-1), 1) := by decide +kernel
theorem d_M_look_47 : decode (ab_bc mt_M_look) 47 = .ok (.ixor, 1) := by decide +kernel
theorem d_M_look_48 : decode (ab_bc mt_M_look) 48 = .ok (.iand, 1) := by decide +kernel
theorem d_M_look_49 : decode (ab_bc mt_M_look) 49 = .ok (.iconst 1, 1) := by decide +kernel
theorem d_M_look_50 : decode (ab_bc mt_M_look) 50 = .ok (.iload_n 1, 1) := by decide +kernel
theorem d_M_look_51 : decode (ab_bc mt_M_look) 51 = .ok (.ishl, 1) := by decide +kernel
theorem d_M_look_52 : decode (ab_bc mt_M_look) 52 = .ok (.iconst (-1), 1) := by decide +kernel
theorem d_M_look_53 : decode (ab_bc mt_M_look) 53 = .ok (.ixor, 1) := by decide +kernel
theorem d_M_look_54 : decode (ab_bc mt_M_look) 54 = .ok (.iand, 1) := by decide +kernel
theorem d_M_look_55 : decode (ab_bc mt_M_look) 55 = .ok (.istore_n 2, 1) := by decide +kernel
theorem d_M_look_56 : decode (ab_bc mt_M_look) 56 = .ok (.iload_n 2, 1) := by decide +kernel
theorem d_M_look_57 : decode (ab_bc mt_M_look) 57 = .ok (.ifCond .ne 7, 3) := by decide +kernel
theorem d_M_look_60 : decode (ab_bc mt_M_look) 60 = .ok (.iconst (-1), 1) := by decide +kernel
theorem d_M_look_61 : decode (ab_bc mt_M_look) 61 = .ok (.goto 7, 3) := by decide +kernel
theorem d_M_look_64 : decode (ab_bc mt_M_look) 64 = .ok (.iload_n 2, 1) := by decide +kernel
theorem d_M_look_65 : decode (ab_bc mt_M_look) 65 = .ok (.invokestatic 257, 3) := by decide +kernel
theorem d_M_look_68 : decode (ab_bc mt_M_look) 68 = .ok (.ireturn, 1) := by decide +kernel
-- CableKeeperModel.look(I)I over mx
theorem q_M_look_0 {w : ab_Wd} {d n nc ns : Nat} {I : Nat → Nat → Int32} {L : Nat → Nat → Int64} {res : ab_Re} (v1 : Int32) (hc : nc ≤ res.2.2.2.2.2.1) (hs : ns ≤ res.2.2.2.2.2.2)
    (h : ∃ (r1 : Int32), ab_C w d mt_M_isCable [.ref mx, .int v1] ((ab_up I mx 1 0), L, ab_RR, n, nc, ns) (.inl (some (.int r1)), ((ab_up I mx 1 0), L, ab_RR, n, nc, ns)) ∧ ((¬ r1 = 0 → (∃ (r3 : Int32), ab_C w d mt_M_isSound [.ref mx, .int v1] ((ab_up I mx 1 0), L, ab_RR, n, nc, ns) (.inl (some (.int r3)), ((ab_up I mx 1 0), L, ab_RR, n, nc, ns)) ∧ ((¬ r3 = 0 → (∃ (I6 : Nat → Nat → Int32), ab_C w d mt_M_tellFits [.ref mx, .int v1] ((ab_up I mx 1 0), L, ab_RR, n, nc, ns) (.inl none, (I6, L, ab_RR, n, nc, ns)) ∧ ((¬ (((I6 mx 49) &&& ((I6 mx 48) ^^^ (-1))) &&& (((1 : Int32) <<< (v1 &&& 31)) ^^^ (-1))) = 0 → (∃ (r8 : Int32), ab_C w d mt_Integer_numberOfTrailingZeros [.int (((I6 mx 49) &&& ((I6 mx 48) ^^^ (-1))) &&& (((1 : Int32) <<< (v1 &&& 31)) ^^^ (-1)))] (I6, L, ab_RR, n, nc, ns) (.inl (some (.int r8)), (I6, L, ab_RR, n, nc, ns)) ∧ ab_E w (d + 1) mt_M_look 68 [.ref mx, .int v1, .int (((I6 mx 49) &&& ((I6 mx 48) ^^^ (-1))) &&& (((1 : Int32) <<< (v1 &&& 31)) ^^^ (-1)))] [.int r8] (I6, L, ab_RR, n, nc, ns) res)) ∧ ((((I6 mx 49) &&& ((I6 mx 48) ^^^ (-1))) &&& (((1 : Int32) <<< (v1 &&& 31)) ^^^ (-1))) = 0 → (ab_E w (d + 1) mt_M_look 68 [.ref mx, .int v1, .int (((I6 mx 49) &&& ((I6 mx 48) ^^^ (-1))) &&& (((1 : Int32) <<< (v1 &&& 31)) ^^^ (-1)))] [.int (-1)] (I6, L, ab_RR, n, nc, ns) res))))) ∧ (r3 = 0 → (∃ (r9 : Int32) (I10 : Nat → Nat → Int32), ab_C w d mt_M_fail [.ref mx, .int 2] ((ab_up I mx 1 0), L, ab_RR, n, nc, ns) (.inl (some (.int r9)), (I10, L, ab_RR, n, nc, ns)) ∧ res = (.inl (some (.int r9)), (I10, L, ab_RR, n, nc, ns))))))) ∧ (r1 = 0 → (∃ (r11 : Int32) (I12 : Nat → Nat → Int32), ab_C w d mt_M_fail [.ref mx, .int 1] ((ab_up I mx 1 0), L, ab_RR, n, nc, ns) (.inl (some (.int r11)), (I12, L, ab_RR, n, nc, ns)) ∧ res = (.inl (some (.int r11)), (I12, L, ab_RR, n, nc, ns)))))) : ab_E w (d + 1) mt_M_look 0 [.ref mx, .int v1, .null] [] (I, L, ab_RR, n, nc, ns) res := by
  refine ab_aload_n (i := 0) d_M_look_0 rfl rfl ?_
  refine ab_iconst (v := 0) d_M_look_1 rfl ?_
  refine ab_putI (ci := 11) (k := 1) d_M_look_2 v_1369 rfl (by decide) (by decide) rfl (Or.inl rfl) rfl rfl ?_
  refine ab_aload_n (i := 0) d_M_look_5 rfl rfl ?_
  refine ab_iload_n (i := 1) d_M_look_6 rfl rfl ?_
  obtain ⟨r1, hC, h⟩ := h
  refine ab_callV (me2 := mt_M_isCable) (b := mx) (as := [.int v1]) (st := []) (rv := (some (.int r1))) (M2 := ((ab_up I mx 1 0), L, ab_RR, n, nc, ns)) d_M_look_7 ce_M_isCable v_1748 v_1750 v_105 (by decide) rfl (Nat.le_of_ble_eq_true rfl) hC (Nat.le_refl _) (Nat.le_refl _) hc hs (fun j h9 => by cases h9) (fun _ _ => rfl) ?_
  show ab_E w (d + 1) mt_M_look 10 [.ref mx, .int v1, .null] [.int r1] ((ab_up I mx 1 0), L, ab_RR, n, nc, ns) res
  refine ab_if_ne (tgt := 19) d_M_look_10 (by decide) (fun c2 => ?_) (fun c2 => ?_)
  · have h := h.1 c2
    refine ab_aload_n (i := 0) d_M_look_19 rfl rfl ?_
    refine ab_iload_n (i := 1) d_M_look_20 rfl rfl ?_
    obtain ⟨r3, hC, h⟩ := h
    refine ab_callV (me2 := mt_M_isSound) (b := mx) (as := [.int v1]) (st := []) (rv := (some (.int r3))) (M2 := ((ab_up I mx 1 0), L, ab_RR, n, nc, ns)) d_M_look_21 ce_M_isSound v_1679 v_1681 v_89 (by decide) rfl (Nat.le_of_ble_eq_true rfl) hC (Nat.le_refl _) (Nat.le_refl _) hc hs (fun j h9 => by cases h9) (fun _ _ => rfl) ?_
    show ab_E w (d + 1) mt_M_look 24 [.ref mx, .int v1, .null] [.int r3] ((ab_up I mx 1 0), L, ab_RR, n, nc, ns) res
    refine ab_if_ne (tgt := 33) d_M_look_24 (by decide) (fun c4 => ?_) (fun c4 => ?_)
    · have h := h.1 c4
      refine ab_aload_n (i := 0) d_M_look_33 rfl rfl ?_
      refine ab_iload_n (i := 1) d_M_look_34 rfl rfl ?_
      obtain ⟨I6, hC, h⟩ := h
      refine ab_callV (me2 := mt_M_tellFits) (b := mx) (as := [.int v1]) (st := []) (rv := none) (M2 := (I6, L, ab_RR, n, nc, ns)) d_M_look_35 ce_M_tellFits v_1964 v_1966 v_135 (by decide) rfl (Nat.le_of_ble_eq_true rfl) hC (Nat.le_refl _) (Nat.le_refl _) hc hs (fun j h9 => by cases h9) (fun _ _ => rfl) ?_
      show ab_E w (d + 1) mt_M_look 38 [.ref mx, .int v1, .null] [] (I6, L, ab_RR, n, nc, ns) res
      refine ab_aload_n (i := 0) d_M_look_38 rfl rfl ?_
      refine ab_getI (ci := 11) (k := 49) d_M_look_39 v_1417 rfl (by decide) (by decide) rfl ?_
      refine ab_aload_n (i := 0) d_M_look_42 rfl rfl ?_
      refine ab_getI (ci := 11) (k := 48) d_M_look_43 v_1416 rfl (by decide) (by decide) rfl ?_
      refine ab_iconst (v := (-1)) d_M_look_46 rfl ?_
      refine ab_ixor d_M_look_47 ?_
      refine ab_iand d_M_look_48 ?_
      refine ab_iconst (v := 1) d_M_look_49 rfl ?_
      refine ab_iload_n (i := 1) d_M_look_50 rfl rfl ?_
      refine ab_ishl d_M_look_51 ?_
      refine ab_iconst (v := (-1)) d_M_look_52 rfl ?_
      refine ab_ixor d_M_look_53 ?_
      refine ab_iand d_M_look_54 ?_
      refine ab_istore_n (i := 2) d_M_look_55 rfl (by decide) (Or.inr rfl) ?_
      refine ab_iload_n (i := 2) d_M_look_56 rfl rfl ?_
      refine ab_if_ne (tgt := 64) d_M_look_57 (by decide) (fun c7 => ?_) (fun c7 => ?_)
      · have h := h.1 c7
        refine ab_iload_n (i := 2) d_M_look_64 rfl rfl ?_
        obtain ⟨r8, hC, h⟩ := h
        refine ab_callS (me2 := mt_Integer_numberOfTrailingZeros) (as := [.int (((I6 mx 49) &&& ((I6 mx 48) ^^^ (-1))) &&& (((1 : Int32) <<< (v1 &&& 31)) ^^^ (-1)))]) (st := []) (rv := (some (.int r8))) (M2 := (I6, L, ab_RR, n, nc, ns)) d_M_look_65 ce_Integer_numberOfTrailingZeros ⟨v_1917, Or.inl v_1916⟩ (Nat.le_of_ble_eq_true rfl) hC (Nat.le_refl _) (Nat.le_refl _) hc hs (fun j h9 => by cases h9) (fun _ _ => rfl) ?_
        show ab_E w (d + 1) mt_M_look 68 [.ref mx, .int v1, .int (((I6 mx 49) &&& ((I6 mx 48) ^^^ (-1))) &&& (((1 : Int32) <<< (v1 &&& 31)) ^^^ (-1)))] [.int r8] (I6, L, ab_RR, n, nc, ns) res
        exact h
      · have h := h.2 c7
        refine ab_iconst (v := (-1)) d_M_look_60 rfl ?_
        refine ab_goto (tgt := 68) d_M_look_61 (by decide) ?_
        exact h
    · have h := h.2 c4
      refine ab_aload_n (i := 0) d_M_look_27 rfl rfl ?_
      refine ab_iconst (v := 2) d_M_look_28 rfl ?_
      obtain ⟨r9, I10, hC, h⟩ := h
      refine ab_callV (me2 := mt_M_fail) (b := mx) (as := [.int 2]) (st := []) (rv := (some (.int r9))) (M2 := (I10, L, ab_RR, n, nc, ns)) d_M_look_29 ce_M_fail v_1562 v_1564 v_66 (by decide) rfl (Nat.le_of_ble_eq_true rfl) hC (Nat.le_refl _) (Nat.le_refl _) hc hs (fun j h9 => by cases h9) (fun _ _ => rfl) ?_
      show ab_E w (d + 1) mt_M_look 32 [.ref mx, .int v1, .null] [.int r9] (I10, L, ab_RR, n, nc, ns) res
      exact ab_iret (ty := .int) d_M_look_32 rfl rfl h
  · have h := h.2 c2
    refine ab_aload_n (i := 0) d_M_look_13 rfl rfl ?_
    refine ab_iconst (v := 1) d_M_look_14 rfl ?_
    obtain ⟨r11, I12, hC, h⟩ := h
    refine ab_callV (me2 := mt_M_fail) (b := mx) (as := [.int 1]) (st := []) (rv := (some (.int r11))) (M2 := (I12, L, ab_RR, n, nc, ns)) d_M_look_15 ce_M_fail v_1562 v_1564 v_66 (by decide) rfl (Nat.le_of_ble_eq_true rfl) hC (Nat.le_refl _) (Nat.le_refl _) hc hs (fun j h9 => by cases h9) (fun _ _ => rfl) ?_
    show ab_E w (d + 1) mt_M_look 18 [.ref mx, .int v1, .null] [.int r11] (I12, L, ab_RR, n, nc, ns) res
    exact ab_iret (ty := .int) d_M_look_18 rfl rfl h
theorem q_M_look_68 {w : ab_Wd} {d n nc ns : Nat} {I : Nat → Nat → Int32} {L : Nat → Nat → Int64} {res : ab_Re} (v1 : Int32) (v2 : Int32) (s0 : Int32) (hc : nc ≤ res.2.2.2.2.2.1) (hs : ns ≤ res.2.2.2.2.2.2)
    (h : res = (.inl (some (.int s0)), (I, L, ab_RR, n, nc, ns))) : ab_E w (d + 1) mt_M_look 68 [.ref mx, .int v1, .int v2] [.int s0] (I, L, ab_RR, n, nc, ns) res := by
  exact ab_iret (ty := .int) d_M_look_68 rfl rfl h
theorem d_M_draw_0 : decode (ab_bc mt_M_draw) 0 = .ok (.aload_n 0, 1) := by decide +kernel
theorem d_M_draw_1 : decode (ab_bc mt_M_draw) 1 = .ok (.aload_n 0, 1) := by decide +kernel
theorem d_M_draw_2 : decode (ab_bc mt_M_draw) 2 = .ok (.getfield 471, 3) := by decide +kernel
theorem d_M_draw_5 : decode (ab_bc mt_M_draw) 5 = .ok (.ldc_w 474, 3) := by decide +kernel
theorem d_M_draw_8 : decode (ab_bc mt_M_draw) 8 = .ok (.imul, 1) := by decide +kernel
theorem d_M_draw_9 : decode (ab_bc mt_M_draw) 9 = .ok (.sipush 12345, 3) := by decide +kernel
theorem d_M_draw_12 : decode (ab_bc mt_M_draw) 12 = .ok (.iadd, 1) := by decide +kernel
theorem d_M_draw_13 : decode (ab_bc mt_M_draw) 13 = .ok (.putfield 471, 3) := by decide +kernel
theorem d_M_draw_16 : decode (ab_bc mt_M_draw) 16 = .ok (.aload_n 0, 1) := by decide +kernel
theorem d_M_draw_17 : decode (ab_bc mt_M_draw) 17 = .ok (.getfield 471, 3) := by decide +kernel
theorem d_M_draw_20 : decode (ab_bc mt_M_draw) 20 = .ok (.bipush 16, 2) := by decide +kernel
theorem d_M_draw_22 : decode (ab_bc mt_M_draw) 22 = .ok (.ishr, 1) := by decide +kernel
theorem d_M_draw_23 : decode (ab_bc mt_M_draw) 23 = .ok (.sipush 32767, 3) := by decide +kernel
theorem d_M_draw_26 : decode (ab_bc mt_M_draw) 26 = .ok (.iand, 1) := by decide +kernel
theorem d_M_draw_27 : decode (ab_bc mt_M_draw) 27 = .ok (.iload_n 1, 1) := by decide +kernel
theorem d_M_draw_28 : decode (ab_bc mt_M_draw) 28 = .ok (.irem, 1) := by decide +kernel
theorem d_M_draw_29 : decode (ab_bc mt_M_draw) 29 = .ok (.ireturn, 1) := by decide +kernel
-- CableKeeperModel.draw(I)I over mx
theorem q_M_draw_0 {w : ab_Wd} {d n nc ns : Nat} {I : Nat → Nat → Int32} {L : Nat → Nat → Int64} {res : ab_Re} (v1 : Int32) (hc : nc ≤ res.2.2.2.2.2.1) (hs : ns ≤ res.2.2.2.2.2.2)
    (h : (¬ v1 = 0) ∧ res = (.inl (some (.int ((((((I mx 50) * 1103515245) + 12345) >>> ((16 : Int32) &&& 31)) &&& 32767) - (((((I mx 50) * 1103515245) + 12345) >>> ((16 : Int32) &&& 31)) &&& 32767) / v1 * v1))), ((ab_up I mx 50 (((I mx 50) * 1103515245) + 12345)), L, ab_RR, n, nc, ns))) : ab_E w d mt_M_draw 0 [.ref mx, .int v1] [] (I, L, ab_RR, n, nc, ns) res := by
  refine ab_aload_n (i := 0) d_M_draw_0 rfl rfl ?_
  refine ab_aload_n (i := 0) d_M_draw_1 rfl rfl ?_
  refine ab_getI (ci := 11) (k := 50) d_M_draw_2 v_1418 rfl (by decide) (by decide) rfl ?_
  refine ab_ldcw (v := 1103515245) d_M_draw_5 v_1988 ?_
  refine ab_imul d_M_draw_8 ?_
  refine ab_sipush (v := 12345) d_M_draw_9 rfl ?_
  refine ab_iadd d_M_draw_12 ?_
  refine ab_putI (ci := 11) (k := 50) d_M_draw_13 v_1418 rfl (by decide) (by decide) rfl (Or.inl rfl) rfl rfl ?_
  refine ab_aload_n (i := 0) d_M_draw_16 rfl rfl ?_
  refine ab_getI (ci := 11) (k := 50) d_M_draw_17 v_1418 rfl (by decide) (by decide) rfl ?_
  refine ab_bipush (v := 16) d_M_draw_20 rfl ?_
  refine ab_ishr d_M_draw_22 ?_
  refine ab_sipush (v := 32767) d_M_draw_23 rfl ?_
  refine ab_iand d_M_draw_26 ?_
  refine ab_iload_n (i := 1) d_M_draw_27 rfl rfl ?_
  have g := h.1; have h := h.2
  refine ab_irem d_M_draw_28 g ?_
  exact ab_iret (ty := .int) d_M_draw_29 rfl rfl h
