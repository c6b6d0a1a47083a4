theorem d_M_aloneOf_0 : decode (ab_bc mt_M_aloneOf) 0 = .ok (.iconst (-1), 1) := by decide +kernel
theorem d_M_aloneOf_1 : decode (ab_bc mt_M_aloneOf) 1 = .ok (.istore_n 2, 1) := by decide +kernel
theorem d_M_aloneOf_2 : decode (ab_bc mt_M_aloneOf) 2 = .ok (.iconst 0, 1) := by decide +kernel
theorem d_M_aloneOf_3 : decode (ab_bc mt_M_aloneOf) 3 = .ok (.istore_n 3, 1) := by decide +kernel
theorem d_M_aloneOf_4 : decode (ab_bc mt_M_aloneOf) 4 = .ok (.iconst 0, 1) := by decide +kernel
theorem d_M_aloneOf_5 : decode (ab_bc mt_M_aloneOf) 5 = .ok (.istore 4, 2) := by decide +kernel
theorem d_M_aloneOf_7 : decode (ab_bc mt_M_aloneOf) 7 = .ok (.iload 4, 2) := by decide +kernel
theorem d_M_aloneOf_9 : decode (ab_bc mt_M_aloneOf) 9 = .ok (.aload_n 0, 1) := by decide +kernel
theorem d_M_aloneOf_10 : decode (ab_bc mt_M_aloneOf) 10 = .ok (.invokevirtual 234, 3) := by decide +kernel
theorem d_M_aloneOf_13 : decode (ab_bc mt_M_aloneOf) 13 = .ok (.if_icmp .ge 61, 3) := by decide +kernel
theorem d_M_aloneOf_16 : decode (ab_bc mt_M_aloneOf) 16 = .ok (.aload_n 0, 1) := by decide +kernel
theorem d_M_aloneOf_17 : decode (ab_bc mt_M_aloneOf) 17 = .ok (.iload 4, 2) := by decide +kernel
theorem d_M_aloneOf_19 : decode (ab_bc mt_M_aloneOf) 19 = .ok (.invokevirtual 262, 3) := by decide +kernel
theorem d_M_aloneOf_22 : decode (ab_bc mt_M_aloneOf) 22 = .ok (.ifCond .eq 46, 3) := by decide +kernel
theorem d_M_aloneOf_25 : decode (ab_bc mt_M_aloneOf) 25 = .ok (.aload_n 0, 1) := by decide +kernel
theorem d_M_aloneOf_26 : decode (ab_bc mt_M_aloneOf) 26 = .ok (.iload 4, 2) := by decide +kernel
theorem d_M_aloneOf_28 : decode (ab_bc mt_M_aloneOf) 28 = .ok (.iload_n 1, 1) := by decide +kernel
theorem d_M_aloneOf_29 : decode (ab_bc mt_M_aloneOf) 29 = .ok (.invokevirtual 269, 3) := by decide +kernel
theorem d_M_aloneOf_32 : decode (ab_bc mt_M_aloneOf) 32 = .ok (.iconst (-1), 1) := by decide +kernel
theorem d_M_aloneOf_33 : decode (ab_bc mt_M_aloneOf) 33 = .ok (.if_icmp .ne 6, 3) := by decide +kernel
theorem d_M_aloneOf_36 : decode (ab_bc mt_M_aloneOf) 36 = .ok (.goto 32, 3) := by decide +kernel
theorem d_M_aloneOf_39 : decode (ab_bc mt_M_aloneOf) 39 = .ok (.iload_n 3, 1) := by decide +kernel
theorem d_M_aloneOf_40 : decode (ab_bc mt_M_aloneOf) 40 = .ok (.iconst 1, 1) := by decide +kernel
theorem d_M_aloneOf_41 : decode (ab_bc mt_M_aloneOf) 41 = .ok (.iload 4, 2) := by decide +kernel
theorem d_M_aloneOf_43 : decode (ab_bc mt_M_aloneOf) 43 = .ok (.ishl, 1) := by decide +kernel
theorem d_M_aloneOf_44 : decode (ab_bc mt_M_aloneOf) 44 = .ok (.ior, 1) := by decide +kernel
theorem d_M_aloneOf_45 : decode (ab_bc mt_M_aloneOf) 45 = .ok (.istore_n 3, 1) := by decide +kernel
theorem d_M_aloneOf_46 : decode (ab_bc mt_M_aloneOf) 46 = .ok (.iload_n 2, 1) := by decide +kernel
theorem d_M_aloneOf_47 : decode (ab_bc mt_M_aloneOf) 47 = .ok (.iconst (-1), 1) := by decide +kernel
theorem d_M_aloneOf_48 : decode (ab_bc mt_M_aloneOf) 48 = .ok (.if_icmp .eq 13, 3) := by decide +kernel
theorem d_M_aloneOf_51 : decode (ab_bc mt_M_aloneOf) 51 = .ok (.aload_n 0, 1) := by decide +kernel
theorem d_M_aloneOf_52 : decode (ab_bc mt_M_aloneOf) 52 = .ok (.iload 4, 2) := by decide +kernel
theorem d_M_aloneOf_54 : decode (ab_bc mt_M_aloneOf) 54 = .ok (.iload_n 2, 1) := by decide +kernel
theorem d_M_aloneOf_55 : decode (ab_bc mt_M_aloneOf) 55 = .ok (.invokevirtual 241, 3) := by decide +kernel
theorem d_M_aloneOf_58 : decode (ab_bc mt_M_aloneOf) 58 = .ok (.ifCond .eq 8, 3) := by decide +kernel
theorem d_M_aloneOf_61 : decode (ab_bc mt_M_aloneOf) 61 = .ok (.iload 4, 2) := by decide +kernel
theorem d_M_aloneOf_63 : decode (ab_bc mt_M_aloneOf) 63 = .ok (.goto 4, 3) := by decide +kernel
theorem d_M_aloneOf_66 : decode (ab_bc mt_M_aloneOf) 66 = .ok (.iload_n 2, 1) := by decide +kernel
theorem d_M_aloneOf_67 : decode (ab_bc mt_M_aloneOf) 67 = .ok (.istore_n 2, 1) := by decide +kernel
theorem d_M_aloneOf_68 : decode (ab_bc mt_M_aloneOf) 68 = .ok (.iinc 4 1, 3) := by decide +kernel
theorem d_M_aloneOf_71 : decode (ab_bc mt_M_aloneOf) 71 = .ok (.goto (-64), 3) := by decide +kernel
theorem d_M_aloneOf_74 : decode (ab_bc mt_M_aloneOf) 74 = .ok (.iload_n 2, 1) := by decide +kernel
theorem d_M_aloneOf_75 : decode (ab_bc mt_M_aloneOf) 75 = .ok (.iconst (-1), 1) := by decide +kernel
theorem d_M_aloneOf_76 : decode (ab_bc mt_M_aloneOf) 76 = .ok (.if_icmp .ne 7, 3) := by decide +kernel
theorem d_M_aloneOf_79 : decode (ab_bc mt_M_aloneOf) 79 = .ok (.iconst (-1), 1) := by decide +kernel
theorem d_M_aloneOf_80 : decode (ab_bc mt_M_aloneOf) 80 = .ok (.goto 14, 3) := by decide +kernel
theorem d_M_aloneOf_83 : decode (ab_bc mt_M_aloneOf) 83 = .ok (.aload_n 0, 1) := by decide +kernel
theorem d_M_aloneOf_84 : decode (ab_bc mt_M_aloneOf) 84 = .ok (.iload_n 3, 1) := by decide +kernel
theorem d_M_aloneOf_85 : decode (ab_bc mt_M_aloneOf) 85 = .ok (.iconst 1, 1) := by decide +kernel
theorem d_M_aloneOf_86 : decode (ab_bc mt_M_aloneOf) 86 = .ok (.iload_n 2, 1) := by decide +kernel
theorem d_M_aloneOf_87 : decode (ab_bc mt_M_aloneOf) 87 = .ok (.ishl, 1) := by decide +kernel
theorem d_M_aloneOf_88 : decode (ab_bc mt_M_aloneOf) 88 = .ok (.iconst (-1), 1) := by decide +kernel
theorem d_M_aloneOf_89 : decode (ab_bc mt_M_aloneOf) 89 = .ok (.ixor, 1) := by decide +kernel
theorem d_M_aloneOf_90 : decode (ab_bc mt_M_aloneOf) 90 = .ok (.iand, 1) := by decide +kernel
theorem d_M_aloneOf_91 : decode (ab_bc mt_M_aloneOf) 91 = .ok (.invokevirtual 338, 3) := by decide +kernel
theorem d_M_aloneOf_94 : decode (ab_bc mt_M_aloneOf) 94 = .ok (.ireturn, 1) := by decide +kernel
-- CableKeeperModel.aloneOf(I)I over mx
theorem q_M_aloneOf_0 {w : ab_Wd} {d n nc ns : Nat} {I : Nat → Nat → Int32} {L : Nat → Nat → Int64} {res : ab_Re} (v1 : Int32) (hc : nc ≤ res.2.2.2.2.2.1) (hs : ns ≤ res.2.2.2.2.2.2)
    (h : ab_E w (d + 1) mt_M_aloneOf 7 [.ref mx, .int v1, .int (-1), .int 0, .int 0] [] (I, L, ab_RR, n, nc, ns) res) : ab_E w (d + 1) mt_M_aloneOf 0 [.ref mx, .int v1, .null, .null, .null] [] (I, L, ab_RR, n, nc, ns) res := by
  refine ab_iconst (v := (-1)) d_M_aloneOf_0 rfl ?_
  refine ab_istore_n (i := 2) d_M_aloneOf_1 rfl (by decide) (Or.inr rfl) ?_
  refine ab_iconst (v := 0) d_M_aloneOf_2 rfl ?_
  refine ab_istore_n (i := 3) d_M_aloneOf_3 rfl (by decide) (Or.inr rfl) ?_
  refine ab_iconst (v := 0) d_M_aloneOf_4 rfl ?_
  refine ab_istore (i := 4) d_M_aloneOf_5 (by decide) (Or.inr rfl) ?_
  exact h
theorem q_M_aloneOf_7 {w : ab_Wd} {d n nc ns : Nat} {I : Nat → Nat → Int32} {L : Nat → Nat → Int64} {res : ab_Re} (v1 : Int32) (v2 : Int32) (v3 : Int32) (v4 : Int32) (hc : nc ≤ res.2.2.2.2.2.1) (hs : ns ≤ res.2.2.2.2.2.2)
    (h : ∃ (r1 : Int32), ab_C w d mt_M_many [.ref mx] (I, L, ab_RR, n, nc, ns) (.inl (some (.int r1)), (I, L, ab_RR, n, nc, ns)) ∧ ((r1 ≤ v4 → ((¬ v2 = (-1) → (∃ (r4 : Int32) (I5 : Nat → Nat → Int32), ab_C w d mt_M_lossOf [.ref mx, .int (v3 &&& (((1 : Int32) <<< (v2 &&& 31)) ^^^ (-1)))] (I, L, ab_RR, n, nc, ns) (.inl (some (.int r4)), (I5, L, ab_RR, n, nc, ns)) ∧ ab_E w (d + 1) mt_M_aloneOf 94 [.ref mx, .int v1, .int v2, .int v3, .int v4] [.int r4] (I5, L, ab_RR, n, nc, ns) res)) ∧ (v2 = (-1) → (ab_E w (d + 1) mt_M_aloneOf 94 [.ref mx, .int v1, .int v2, .int v3, .int v4] [.int (-1)] (I, L, ab_RR, n, nc, ns) res)))) ∧ (¬ r1 ≤ v4 → (∃ (r6 : Int32), ab_C w d mt_M_isSound [.ref mx, .int v4] (I, L, ab_RR, n, nc, ns) (.inl (some (.int r6)), (I, L, ab_RR, n, nc, ns)) ∧ ((r6 = 0 → (ab_E w (d + 1) mt_M_aloneOf 68 [.ref mx, .int v1, .int v2, .int v3, .int v4] [] (I, L, ab_RR, n, nc, ns) res)) ∧ (¬ r6 = 0 → (∃ (r8 : Int32), ab_C w d mt_M_otherEnd [.ref mx, .int v4, .int v1] (I, L, ab_RR, n, nc, ns) (.inl (some (.int r8)), (I, L, ab_RR, n, nc, ns)) ∧ ((¬ r8 = (-1) → ((v2 = (-1) → (ab_E w (d + 1) mt_M_aloneOf 61 [.ref mx, .int v1, .int v2, .int (v3 ||| ((1 : Int32) <<< (v4 &&& 31))), .int v4] [] (I, L, ab_RR, n, nc, ns) res)) ∧ (¬ v2 = (-1) → (∃ (r11 : Int32), ab_C w d mt_M_isCheaper [.ref mx, .int v4, .int v2] (I, L, ab_RR, n, nc, ns) (.inl (some (.int r11)), (I, L, ab_RR, n, nc, ns)) ∧ ((r11 = 0 → (ab_E w (d + 1) mt_M_aloneOf 67 [.ref mx, .int v1, .int v2, .int (v3 ||| ((1 : Int32) <<< (v4 &&& 31))), .int v4] [.int v2] (I, L, ab_RR, n, nc, ns) res)) ∧ (¬ r11 = 0 → (ab_E w (d + 1) mt_M_aloneOf 61 [.ref mx, .int v1, .int v2, .int (v3 ||| ((1 : Int32) <<< (v4 &&& 31))), .int v4] [] (I, L, ab_RR, n, nc, ns) res))))))) ∧ (r8 = (-1) → (ab_E w (d + 1) mt_M_aloneOf 68 [.ref mx, .int v1, .int v2, .int v3, .int v4] [] (I, L, ab_RR, n, nc, ns) res)))))))))) : ab_E w (d + 1) mt_M_aloneOf 7 [.ref mx, .int v1, .int v2, .int v3, .int v4] [] (I, L, ab_RR, n, nc, ns) res := by
  refine ab_iload (i := 4) d_M_aloneOf_7 rfl ?_
  refine ab_aload_n (i := 0) d_M_aloneOf_9 rfl rfl ?_
  obtain ⟨r1, hC, h⟩ := h
  refine ab_callV (me2 := mt_M_many) (b := mx) (as := []) (st := [.int v4]) (rv := (some (.int r1))) (M2 := (I, L, ab_RR, n, nc, ns)) d_M_aloneOf_10 ce_M_many v_1635 v_1637 v_79 (by decide) rfl (Nat.le_of_ble_eq_true rfl) hC (Nat.le_refl _) (Nat.le_refl _) hc hs (fun j h9 => by cases h9) (fun _ _ => rfl) ?_
  show ab_E w (d + 1) mt_M_aloneOf 13 [.ref mx, .int v1, .int v2, .int v3, .int v4] [.int r1, .int v4] (I, L, ab_RR, n, nc, ns) res
  refine ab_icmp_ge (tgt := 74) d_M_aloneOf_13 (by decide) (fun c2 => ?_) (fun c2 => ?_)
  · have h := h.1 c2
    refine ab_iload_n (i := 2) d_M_aloneOf_74 rfl rfl ?_
    refine ab_iconst (v := (-1)) d_M_aloneOf_75 rfl ?_
    refine ab_icmp_ne (tgt := 83) d_M_aloneOf_76 (by decide) (fun c3 => ?_) (fun c3 => ?_)
    · have h := h.1 c3
      refine ab_aload_n (i := 0) d_M_aloneOf_83 rfl rfl ?_
      refine ab_iload_n (i := 3) d_M_aloneOf_84 rfl rfl ?_
      refine ab_iconst (v := 1) d_M_aloneOf_85 rfl ?_
      refine ab_iload_n (i := 2) d_M_aloneOf_86 rfl rfl ?_
      refine ab_ishl d_M_aloneOf_87 ?_
      refine ab_iconst (v := (-1)) d_M_aloneOf_88 rfl ?_
      refine ab_ixor d_M_aloneOf_89 ?_
      refine ab_iand d_M_aloneOf_90 ?_
      obtain ⟨r4, I5, hC, h⟩ := h
      refine ab_callV (me2 := mt_M_lossOf) (b := mx) (as := [.int (v3 &&& (((1 : Int32) <<< (v2 &&& 31)) ^^^ (-1)))]) (st := []) (rv := (some (.int r4))) (M2 := (I5, L, ab_RR, n, nc, ns)) d_M_aloneOf_91 ce_M_lossOf v_1767 v_1769 v_109 (by decide) rfl (Nat.le_of_ble_eq_true rfl) hC (Nat.le_refl _) (Nat.le_refl _) hc hs (fun j h9 => by cases h9) (fun _ _ => rfl) ?_
      show ab_E w (d + 1) mt_M_aloneOf 94 [.ref mx, .int v1, .int v2, .int v3, .int v4] [.int r4] (I5, L, ab_RR, n, nc, ns) res
      exact h
    · have h := h.2 c3
      refine ab_iconst (v := (-1)) d_M_aloneOf_79 rfl ?_
      refine ab_goto (tgt := 94) d_M_aloneOf_80 (by decide) ?_
      exact h
  · have h := h.2 c2
    refine ab_aload_n (i := 0) d_M_aloneOf_16 rfl rfl ?_
    refine ab_iload (i := 4) d_M_aloneOf_17 rfl ?_
    obtain ⟨r6, hC, h⟩ := h
    refine ab_callV (me2 := mt_M_isSound) (b := mx) (as := [.int v4]) (st := []) (rv := (some (.int r6))) (M2 := (I, L, ab_RR, n, nc, ns)) d_M_aloneOf_19 ce_M_isSound v_1679 v_1681 v_89 (by decide) rfl (Nat.le_of_ble_eq_true rfl) hC (Nat.le_refl _) (Nat.le_refl _) hc hs (fun j h9 => by cases h9) (fun _ _ => rfl) ?_
    show ab_E w (d + 1) mt_M_aloneOf 22 [.ref mx, .int v1, .int v2, .int v3, .int v4] [.int r6] (I, L, ab_RR, n, nc, ns) res
    refine ab_if_eq (tgt := 68) d_M_aloneOf_22 (by decide) (fun c7 => ?_) (fun c7 => ?_)
    · have h := h.1 c7
      exact h
    · have h := h.2 c7
      refine ab_aload_n (i := 0) d_M_aloneOf_25 rfl rfl ?_
      refine ab_iload (i := 4) d_M_aloneOf_26 rfl ?_
      refine ab_iload_n (i := 1) d_M_aloneOf_28 rfl rfl ?_
      obtain ⟨r8, hC, h⟩ := h
      refine ab_callV (me2 := mt_M_otherEnd) (b := mx) (as := [.int v4, .int v1]) (st := []) (rv := (some (.int r8))) (M2 := (I, L, ab_RR, n, nc, ns)) d_M_aloneOf_29 ce_M_otherEnd v_1691 v_1693 v_92 (by decide) rfl (Nat.le_of_ble_eq_true rfl) hC (Nat.le_refl _) (Nat.le_refl _) hc hs (fun j h9 => by cases h9) (fun _ _ => rfl) ?_
      show ab_E w (d + 1) mt_M_aloneOf 32 [.ref mx, .int v1, .int v2, .int v3, .int v4] [.int r8] (I, L, ab_RR, n, nc, ns) res
      refine ab_iconst (v := (-1)) d_M_aloneOf_32 rfl ?_
      refine ab_icmp_ne (tgt := 39) d_M_aloneOf_33 (by decide) (fun c9 => ?_) (fun c9 => ?_)
      · have h := h.1 c9
        refine ab_iload_n (i := 3) d_M_aloneOf_39 rfl rfl ?_
        refine ab_iconst (v := 1) d_M_aloneOf_40 rfl ?_
        refine ab_iload (i := 4) d_M_aloneOf_41 rfl ?_
        refine ab_ishl d_M_aloneOf_43 ?_
        refine ab_ior d_M_aloneOf_44 ?_
        refine ab_istore_n (i := 3) d_M_aloneOf_45 rfl (by decide) (Or.inr rfl) ?_
        refine ab_iload_n (i := 2) d_M_aloneOf_46 rfl rfl ?_
        refine ab_iconst (v := (-1)) d_M_aloneOf_47 rfl ?_
        refine ab_icmp_eq (tgt := 61) d_M_aloneOf_48 (by decide) (fun c10 => ?_) (fun c10 => ?_)
        · have h := h.1 c10
          exact h
        · have h := h.2 c10
          refine ab_aload_n (i := 0) d_M_aloneOf_51 rfl rfl ?_
          refine ab_iload (i := 4) d_M_aloneOf_52 rfl ?_
          refine ab_iload_n (i := 2) d_M_aloneOf_54 rfl rfl ?_
          obtain ⟨r11, hC, h⟩ := h
          refine ab_callV (me2 := mt_M_isCheaper) (b := mx) (as := [.int v4, .int v2]) (st := []) (rv := (some (.int r11))) (M2 := (I, L, ab_RR, n, nc, ns)) d_M_aloneOf_55 ce_M_isCheaper v_1650 v_1652 v_82 (by decide) rfl (Nat.le_of_ble_eq_true rfl) hC (Nat.le_refl _) (Nat.le_refl _) hc hs (fun j h9 => by cases h9) (fun _ _ => rfl) ?_
          show ab_E w (d + 1) mt_M_aloneOf 58 [.ref mx, .int v1, .int v2, .int (v3 ||| ((1 : Int32) <<< (v4 &&& 31))), .int v4] [.int r11] (I, L, ab_RR, n, nc, ns) res
          refine ab_if_eq (tgt := 66) d_M_aloneOf_58 (by decide) (fun c12 => ?_) (fun c12 => ?_)
          · have h := h.1 c12
            refine ab_iload_n (i := 2) d_M_aloneOf_66 rfl rfl ?_
            exact h
          · have h := h.2 c12
            exact h
      · have h := h.2 c9
        refine ab_goto (tgt := 68) d_M_aloneOf_36 (by decide) ?_
        exact h
theorem q_M_aloneOf_61 {w : ab_Wd} {d n nc ns : Nat} {I : Nat → Nat → Int32} {L : Nat → Nat → Int64} {res : ab_Re} (v1 : Int32) (v2 : Int32) (v3 : Int32) (v4 : Int32) (hc : nc ≤ res.2.2.2.2.2.1) (hs : ns ≤ res.2.2.2.2.2.2)
    (h : ab_E w (d + 1) mt_M_aloneOf 67 [.ref mx, .int v1, .int v2, .int v3, .int v4] [.int v4] (I, L, ab_RR, n, nc, ns) res) : ab_E w (d + 1) mt_M_aloneOf 61 [.ref mx, .int v1, .int v2, .int v3, .int v4] [] (I, L, ab_RR, n, nc, ns) res := by
  refine ab_iload (i := 4) d_M_aloneOf_61 rfl ?_
  refine ab_goto (tgt := 67) d_M_aloneOf_63 (by decide) ?_
  exact h
theorem q_M_aloneOf_67 {w : ab_Wd} {d n nc ns : Nat} {I : Nat → Nat → Int32} {L : Nat → Nat → Int64} {res : ab_Re} (v1 : Int32) (v2 : Int32) (v3 : Int32) (v4 : Int32) (s0 : Int32) (hc : nc ≤ res.2.2.2.2.2.1) (hs : ns ≤ res.2.2.2.2.2.2)
    (h : ab_E w (d + 1) mt_M_aloneOf 68 [.ref mx, .int v1, .int s0, .int v3, .int v4] [] (I, L, ab_RR, n, nc, ns) res) : ab_E w (d + 1) mt_M_aloneOf 67 [.ref mx, .int v1, .int v2, .int v3, .int v4] [.int s0] (I, L, ab_RR, n, nc, ns) res := by
  refine ab_istore_n (i := 2) d_M_aloneOf_67 rfl (by decide) (Or.inr rfl) ?_
  exact h
theorem q_M_aloneOf_68 {w : ab_Wd} {d n nc ns : Nat} {I : Nat → Nat → Int32} {L : Nat → Nat → Int64} {res : ab_Re} (v1 : Int32) (v2 : Int32) (v3 : Int32) (v4 : Int32) (hc : nc ≤ res.2.2.2.2.2.1) (hs : ns ≤ res.2.2.2.2.2.2)
    (h : ab_E w (d + 1) mt_M_aloneOf 7 [.ref mx, .int v1, .int v2, .int v3, .int (v4 + 1)] [] (I, L, ab_RR, n, nc, ns) res) : ab_E w (d + 1) mt_M_aloneOf 68 [.ref mx, .int v1, .int v2, .int v3, .int v4] [] (I, L, ab_RR, n, nc, ns) res := by
  refine ab_iinc (i := 4) (v := (v4 + 1)) d_M_aloneOf_68 rfl rfl (by decide) (Or.inr rfl) ?_
  refine ab_goto (tgt := 7) d_M_aloneOf_71 (by decide) ?_
  exact h
theorem q_M_aloneOf_94 {w : ab_Wd} {d n nc ns : Nat} {I : Nat → Nat → Int32} {L : Nat → Nat → Int64} {res : ab_Re} (v1 : Int32) (v2 : Int32) (v3 : Int32) (v4 : Int32) (s0 : Int32) (hc : nc ≤ res.2.2.2.2.2.1) (hs : ns ≤ res.2.2.2.2.2.2)
    (h : res = (.inl (some (.int s0)), (I, L, ab_RR, n, nc, ns))) : ab_E w (d + 1) mt_M_aloneOf 94 [.ref mx, .int v1, .int v2, .int v3, .int v4] [.int s0] (I, L, ab_RR, n, nc, ns) res := by
  exact ab_iret (ty := .int) d_M_aloneOf_94 rfl rfl h
theorem d_M_isApart_0 : decode (ab_bc mt_M_isApart) 0 = .ok (.aload_n 0, 1) := by decide +kernel
theorem d_M_isApart_1 : decode (ab_bc mt_M_isApart) 1 = .ok (.aload_n 0, 1) := by decide +kernel
theorem d_M_isApart_2 : decode (ab_bc mt_M_isApart) 2 = .ok (.getfield 24, 3) := by decide +kernel
theorem d_M_isApart_5 : decode (ab_bc mt_M_isApart) 5 = .ok (.iconst 1, 1) := by decide +kernel
theorem d_M_isApart_6 : decode (ab_bc mt_M_isApart) 6 = .ok (.iaload, 1) := by decide +kernel
theorem d_M_isApart_7 : decode (ab_bc mt_M_isApart) 7 = .ok (.iload_n 1, 1) := by decide +kernel
theorem d_M_isApart_8 : decode (ab_bc mt_M_isApart) 8 = .ok (.iconst (-1), 1) := by decide +kernel
theorem d_M_isApart_9 : decode (ab_bc mt_M_isApart) 9 = .ok (.ixor, 1) := by decide +kernel
theorem d_M_isApart_10 : decode (ab_bc mt_M_isApart) 10 = .ok (.iand, 1) := by decide +kernel
theorem d_M_isApart_11 : decode (ab_bc mt_M_isApart) 11 = .ok (.invokevirtual 248, 3) := by decide +kernel
theorem d_M_isApart_14 : decode (ab_bc mt_M_isApart) 14 = .ok (.istore_n 3, 1) := by decide +kernel
theorem d_M_isApart_15 : decode (ab_bc mt_M_isApart) 15 = .ok (.aload_n 0, 1) := by decide +kernel
theorem d_M_isApart_16 : decode (ab_bc mt_M_isApart) 16 = .ok (.invokevirtual 254, 3) := by decide +kernel
theorem d_M_isApart_19 : decode (ab_bc mt_M_isApart) 19 = .ok (.iload_n 2, 1) := by decide +kernel
theorem d_M_isApart_20 : decode (ab_bc mt_M_isApart) 20 = .ok (.if_icmp .le 7, 3) := by decide +kernel
theorem d_M_isApart_23 : decode (ab_bc mt_M_isApart) 23 = .ok (.iconst 1, 1) := by decide +kernel
theorem d_M_isApart_24 : decode (ab_bc mt_M_isApart) 24 = .ok (.goto 4, 3) := by decide +kernel
theorem d_M_isApart_27 : decode (ab_bc mt_M_isApart) 27 = .ok (.iconst 0, 1) := by decide +kernel
theorem d_M_isApart_28 : decode (ab_bc mt_M_isApart) 28 = .ok (.ireturn, 1) := by decide +kernel
-- CableKeeperModel.isApart(II)Z over mx
theorem q_M_isApart_0 {w : ab_Wd} {d n nc ns : Nat} {I : Nat → Nat → Int32} {L : Nat → Nat → Int64} {res : ab_Re} (v1 : Int32) (v2 : Int32) (hc : nc ≤ res.2.2.2.2.2.1) (hs : ns ≤ res.2.2.2.2.2.2)
    (h : ∃ (r1 : Int32) (I2 : Nat → Nat → Int32), ab_C w d mt_M_netOf [.ref mx, .int ((I mx_now 1) &&& (v1 ^^^ (-1)))] (I, L, ab_RR, n, nc, ns) (.inl (some (.int r1)), (I2, L, ab_RR, n, nc, ns)) ∧ ∃ (r3 : Int32), ab_C w d mt_M_pieces [.ref mx] (I2, L, ab_RR, n, nc, ns) (.inl (some (.int r3)), (I2, L, ab_RR, n, nc, ns)) ∧ ((r3 ≤ v2 → (ab_E w (d + 1) mt_M_isApart 28 [.ref mx, .int v1, .int v2, .int r1] [.int 0] (I2, L, ab_RR, n, nc, ns) res)) ∧ (¬ r3 ≤ v2 → (ab_E w (d + 1) mt_M_isApart 28 [.ref mx, .int v1, .int v2, .int r1] [.int 1] (I2, L, ab_RR, n, nc, ns) res)))) : ab_E w (d + 1) mt_M_isApart 0 [.ref mx, .int v1, .int v2, .null] [] (I, L, ab_RR, n, nc, ns) res := by
  refine ab_aload_n (i := 0) d_M_isApart_0 rfl rfl ?_
  refine ab_aload_n (i := 0) d_M_isApart_1 rfl rfl ?_
  refine ab_getR (ci := 11) (k := 4) (j := mx_now) d_M_isApart_2 v_1372 rfl (by decide) (by decide) rfl r_mx_4 ?_
  refine ab_iconst (v := 1) d_M_isApart_5 rfl ?_
  refine ab_iald d_M_isApart_6 rfl rfl (by unfold vp_in; decide) ?_
  refine ab_iload_n (i := 1) d_M_isApart_7 rfl rfl ?_
  refine ab_iconst (v := (-1)) d_M_isApart_8 rfl ?_
  refine ab_ixor d_M_isApart_9 ?_
  refine ab_iand d_M_isApart_10 ?_
  obtain ⟨r1, I2, hC, h⟩ := h
  refine ab_callV (me2 := mt_M_netOf) (b := mx) (as := [.int ((I mx_now 1) &&& (v1 ^^^ (-1)))]) (st := []) (rv := (some (.int r1))) (M2 := (I2, L, ab_RR, n, nc, ns)) d_M_isApart_11 ce_M_netOf v_1643 v_1645 v_81 (by decide) rfl (Nat.le_of_ble_eq_true rfl) hC (Nat.le_refl _) (Nat.le_refl _) hc hs (fun j h9 => by cases h9) (fun _ _ => rfl) ?_
  show ab_E w (d + 1) mt_M_isApart 14 [.ref mx, .int v1, .int v2, .null] [.int r1] (I2, L, ab_RR, n, nc, ns) res
  refine ab_istore_n (i := 3) d_M_isApart_14 rfl (by decide) (Or.inr rfl) ?_
  refine ab_aload_n (i := 0) d_M_isApart_15 rfl rfl ?_
  obtain ⟨r3, hC, h⟩ := h
  refine ab_callV (me2 := mt_M_pieces) (b := mx) (as := []) (st := []) (rv := (some (.int r3))) (M2 := (I2, L, ab_RR, n, nc, ns)) d_M_isApart_16 ce_M_pieces v_1671 v_1673 v_87 (by decide) rfl (Nat.le_of_ble_eq_true rfl) hC (Nat.le_refl _) (Nat.le_refl _) hc hs (fun j h9 => by cases h9) (fun _ _ => rfl) ?_
  show ab_E w (d + 1) mt_M_isApart 19 [.ref mx, .int v1, .int v2, .int r1] [.int r3] (I2, L, ab_RR, n, nc, ns) res
  refine ab_iload_n (i := 2) d_M_isApart_19 rfl rfl ?_
  refine ab_icmp_le (tgt := 27) d_M_isApart_20 (by decide) (fun c4 => ?_) (fun c4 => ?_)
  · have h := h.1 c4
    refine ab_iconst (v := 0) d_M_isApart_27 rfl ?_
    exact h
  · have h := h.2 c4
    refine ab_iconst (v := 1) d_M_isApart_23 rfl ?_
    refine ab_goto (tgt := 28) d_M_isApart_24 (by decide) ?_
    exact h
theorem q_M_isApart_28 {w : ab_Wd} {d n nc ns : Nat} {I : Nat → Nat → Int32} {L : Nat → Nat → Int64} {res : ab_Re} (v1 : Int32) (v2 : Int32) (v3 : Int32) (s0 : Int32) (hc : nc ≤ res.2.2.2.2.2.1) (hs : ns ≤ res.2.2.2.2.2.2)
    (h : (narrow .boolean (.int s0) = .int s0) ∧ res = (.inl (some (.int s0)), (I, L, ab_RR, n, nc, ns))) : ab_E w (d + 1) mt_M_isApart 28 [.ref mx, .int v1, .int v2, .int v3] [.int s0] (I, L, ab_RR, n, nc, ns) res := by
  have g := h.1; have h := h.2
  exact ab_iret (ty := .boolean) d_M_isApart_28 rfl g h
theorem d_M_tellWeak_0 : decode (ab_bc mt_M_tellWeak) 0 = .ok (.aload_n 0, 1) := by decide +kernel
theorem d_M_tellWeak_1 : decode (ab_bc mt_M_tellWeak) 1 = .ok (.invokevirtual 297, 3) := by decide +kernel
theorem d_M_tellWeak_4 : decode (ab_bc mt_M_tellWeak) 4 = .ok (.istore_n 1, 1) := by decide +kernel
theorem d_M_tellWeak_5 : decode (ab_bc mt_M_tellWeak) 5 = .ok (.aload_n 0, 1) := by decide +kernel
theorem d_M_tellWeak_6 : decode (ab_bc mt_M_tellWeak) 6 = .ok (.iconst 0, 1) := by decide +kernel
theorem d_M_tellWeak_7 : decode (ab_bc mt_M_tellWeak) 7 = .ok (.putfield 315, 3) := by decide +kernel
theorem d_M_tellWeak_10 : decode (ab_bc mt_M_tellWeak) 10 = .ok (.aload_n 0, 1) := by decide +kernel
theorem d_M_tellWeak_11 : decode (ab_bc mt_M_tellWeak) 11 = .ok (.iconst (-1), 1) := by decide +kernel
theorem d_M_tellWeak_12 : decode (ab_bc mt_M_tellWeak) 12 = .ok (.putfield 318, 3) := by decide +kernel
theorem d_M_tellWeak_15 : decode (ab_bc mt_M_tellWeak) 15 = .ok (.iconst 0, 1) := by decide +kernel
theorem d_M_tellWeak_16 : decode (ab_bc mt_M_tellWeak) 16 = .ok (.istore_n 2, 1) := by decide +kernel
theorem d_M_tellWeak_17 : decode (ab_bc mt_M_tellWeak) 17 = .ok (.iload_n 2, 1) := by decide +kernel
theorem d_M_tellWeak_18 : decode (ab_bc mt_M_tellWeak) 18 = .ok (.aload_n 0, 1) := by decide +kernel
theorem d_M_tellWeak_19 : decode (ab_bc mt_M_tellWeak) 19 = .ok (.invokevirtual 234, 3) := by decide +kernel
theorem d_M_tellWeak_22 : decode (ab_bc mt_M_tellWeak) 22 = .ok (.if_icmp .ge 121, 3) := by decide +kernel
theorem d_M_tellWeak_25 : decode (ab_bc mt_M_tellWeak) 25 = .ok (.aload_n 0, 1) := by decide +kernel
theorem d_M_tellWeak_26 : decode (ab_bc mt_M_tellWeak) 26 = .ok (.iload_n 2, 1) := by decide +kernel
theorem d_M_tellWeak_27 : decode (ab_bc mt_M_tellWeak) 27 = .ok (.invokevirtual 262, 3) := by decide +kernel
theorem d_M_tellWeak_30 : decode (ab_bc mt_M_tellWeak) 30 = .ok (.ifCond .eq 107, 3) := by decide +kernel
theorem d_M_tellWeak_33 : decode (ab_bc mt_M_tellWeak) 33 = .ok (.aload_n 0, 1) := by decide +kernel
theorem d_M_tellWeak_34 : decode (ab_bc mt_M_tellWeak) 34 = .ok (.iconst 1, 1) := by decide +kernel
theorem d_M_tellWeak_35 : decode (ab_bc mt_M_tellWeak) 35 = .ok (.iload_n 2, 1) := by decide +kernel
theorem d_M_tellWeak_36 : decode (ab_bc mt_M_tellWeak) 36 = .ok (.ishl, 1) := by decide +kernel
theorem d_M_tellWeak_37 : decode (ab_bc mt_M_tellWeak) 37 = .ok (.iload_n 1, 1) := by decide +kernel
theorem d_M_tellWeak_38 : decode (ab_bc mt_M_tellWeak) 38 = .ok (.invokevirtual 341, 3) := by decide +kernel
theorem d_M_tellWeak_41 : decode (ab_bc mt_M_tellWeak) 41 = .ok (.ifCond .eq 6, 3) := by decide +kernel
theorem d_M_tellWeak_44 : decode (ab_bc mt_M_tellWeak) 44 = .ok (.goto 93, 3) := by decide +kernel
theorem d_M_tellWeak_47 : decode (ab_bc mt_M_tellWeak) 47 = .ok (.iload_n 2, 1) := by decide +kernel
theorem d_M_tellWeak_48 : decode (ab_bc mt_M_tellWeak) 48 = .ok (.iconst 1, 1) := by decide +kernel
theorem d_M_tellWeak_49 : decode (ab_bc mt_M_tellWeak) 49 = .ok (.iadd, 1) := by decide +kernel
theorem d_M_tellWeak_50 : decode (ab_bc mt_M_tellWeak) 50 = .ok (.istore_n 3, 1) := by decide +kernel
theorem d_M_tellWeak_51 : decode (ab_bc mt_M_tellWeak) 51 = .ok (.iload_n 3, 1) := by decide +kernel
theorem d_M_tellWeak_52 : decode (ab_bc mt_M_tellWeak) 52 = .ok (.aload_n 0, 1) := by decide +kernel
theorem d_M_tellWeak_53 : decode (ab_bc mt_M_tellWeak) 53 = .ok (.invokevirtual 234, 3) := by decide +kernel
theorem d_M_tellWeak_56 : decode (ab_bc mt_M_tellWeak) 56 = .ok (.if_icmp .ge 81, 3) := by decide +kernel
theorem d_M_tellWeak_59 : decode (ab_bc mt_M_tellWeak) 59 = .ok (.aload_n 0, 1) := by decide +kernel
theorem d_M_tellWeak_60 : decode (ab_bc mt_M_tellWeak) 60 = .ok (.iload_n 3, 1) := by decide +kernel
theorem d_M_tellWeak_61 : decode (ab_bc mt_M_tellWeak) 61 = .ok (.invokevirtual 262, 3) := by decide +kernel
theorem d_M_tellWeak_64 : decode (ab_bc mt_M_tellWeak) 64 = .ok (.ifCond .eq 67, 3) := by decide +kernel
theorem d_M_tellWeak_67 : decode (ab_bc mt_M_tellWeak) 67 = .ok (.aload_n 0, 1) := by decide +kernel
theorem d_M_tellWeak_68 : decode (ab_bc mt_M_tellWeak) 68 = .ok (.iconst 1, 1) := by decide +kernel
theorem d_M_tellWeak_69 : decode (ab_bc mt_M_tellWeak) 69 = .ok (.iload_n 3, 1) := by decide +kernel
theorem d_M_tellWeak_70 : decode (ab_bc mt_M_tellWeak) 70 = .ok (.ishl, 1) := by decide +kernel
theorem d_M_tellWeak_71 : decode (ab_bc mt_M_tellWeak) 71 = .ok (.iload_n 1, 1) := by decide +kernel
theorem d_M_tellWeak_72 : decode (ab_bc mt_M_tellWeak) 72 = .ok (.invokevirtual 341, 3) := by decide +kernel
theorem d_M_tellWeak_75 : decode (ab_bc mt_M_tellWeak) 75 = .ok (.ifCond .ne 56, 3) := by decide +kernel
theorem d_M_tellWeak_78 : decode (ab_bc mt_M_tellWeak) 78 = .ok (.aload_n 0, 1) := by decide +kernel
theorem d_M_tellWeak_79 : decode (ab_bc mt_M_tellWeak) 79 = .ok (.iconst 1, 1) := by decide +kernel
theorem d_M_tellWeak_80 : decode (ab_bc mt_M_tellWeak) 80 = .ok (.iload_n 2, 1) := by decide +kernel
theorem d_M_tellWeak_81 : decode (ab_bc mt_M_tellWeak) 81 = .ok (.ishl, 1) := by decide +kernel
theorem d_M_tellWeak_82 : decode (ab_bc mt_M_tellWeak) 82 = .ok (.iconst 1, 1) := by decide +kernel
theorem d_M_tellWeak_83 : decode (ab_bc mt_M_tellWeak) 83 = .ok (.iload_n 3, 1) := by decide +kernel
theorem d_M_tellWeak_84 : decode (ab_bc mt_M_tellWeak) 84 = .ok (.ishl, 1) := by decide +kernel
theorem d_M_tellWeak_85 : decode (ab_bc mt_M_tellWeak) 85 = .ok (.ior, 1) := by decide +kernel
theorem d_M_tellWeak_86 : decode (ab_bc mt_M_tellWeak) 86 = .ok (.iload_n 1, 1) := by decide +kernel
theorem d_M_tellWeak_87 : decode (ab_bc mt_M_tellWeak) 87 = .ok (.invokevirtual 341, 3) := by decide +kernel
theorem d_M_tellWeak_90 : decode (ab_bc mt_M_tellWeak) 90 = .ok (.ifCond .ne 6, 3) := by decide +kernel
theorem d_M_tellWeak_93 : decode (ab_bc mt_M_tellWeak) 93 = .ok (.goto 38, 3) := by decide +kernel
theorem d_M_tellWeak_96 : decode (ab_bc mt_M_tellWeak) 96 = .ok (.aload_n 0, 1) := by decide +kernel
theorem d_M_tellWeak_97 : decode (ab_bc mt_M_tellWeak) 97 = .ok (.aload_n 0, 1) := by decide +kernel
theorem d_M_tellWeak_98 : decode (ab_bc mt_M_tellWeak) 98 = .ok (.getfield 318, 3) := by decide +kernel
theorem d_M_tellWeak_101 : decode (ab_bc mt_M_tellWeak) 101 = .ok (.iconst (-1), 1) := by decide +kernel
theorem d_M_tellWeak_102 : decode (ab_bc mt_M_tellWeak) 102 = .ok (.if_icmp .ne 12, 3) := by decide +kernel
theorem d_M_tellWeak_105 : decode (ab_bc mt_M_tellWeak) 105 = .ok (.bipush 100, 2) := by decide +kernel
theorem d_M_tellWeak_107 : decode (ab_bc mt_M_tellWeak) 107 = .ok (.iload_n 2, 1) := by decide +kernel
theorem d_M_tellWeak_108 : decode (ab_bc mt_M_tellWeak) 108 = .ok (.imul, 1) := by decide +kernel
theorem d_M_tellWeak_109 : decode (ab_bc mt_M_tellWeak) 109 = .ok (.iload_n 3, 1) := by decide +kernel
theorem d_M_tellWeak_110 : decode (ab_bc mt_M_tellWeak) 110 = .ok (.iadd, 1) := by decide +kernel
theorem d_M_tellWeak_111 : decode (ab_bc mt_M_tellWeak) 111 = .ok (.goto 7, 3) := by decide +kernel
theorem d_M_tellWeak_114 : decode (ab_bc mt_M_tellWeak) 114 = .ok (.aload_n 0, 1) := by decide +kernel
theorem d_M_tellWeak_115 : decode (ab_bc mt_M_tellWeak) 115 = .ok (.getfield 318, 3) := by decide +kernel
theorem d_M_tellWeak_118 : decode (ab_bc mt_M_tellWeak) 118 = .ok (.putfield 318, 3) := by decide +kernel
theorem d_M_tellWeak_121 : decode (ab_bc mt_M_tellWeak) 121 = .ok (.aload_n 0, 1) := by decide +kernel
theorem d_M_tellWeak_122 : decode (ab_bc mt_M_tellWeak) 122 = .ok (.dup, 1) := by decide +kernel
theorem d_M_tellWeak_123 : decode (ab_bc mt_M_tellWeak) 123 = .ok (.getfield 315, 3) := by decide +kernel
theorem d_M_tellWeak_126 : decode (ab_bc mt_M_tellWeak) 126 = .ok (.iconst 1, 1) := by decide +kernel
theorem d_M_tellWeak_127 : decode (ab_bc mt_M_tellWeak) 127 = .ok (.iadd, 1) := by decide +kernel
theorem d_M_tellWeak_128 : decode (ab_bc mt_M_tellWeak) 128 = .ok (.putfield 315, 3) := by decide +kernel
theorem d_M_tellWeak_131 : decode (ab_bc mt_M_tellWeak) 131 = .ok (.iinc 3 1, 3) := by decide +kernel
theorem d_M_tellWeak_134 : decode (ab_bc mt_M_tellWeak) 134 = .ok (.goto (-83), 3) := by decide +kernel
theorem d_M_tellWeak_137 : decode (ab_bc mt_M_tellWeak) 137 = .ok (.iinc 2 1, 3) := by decide +kernel
theorem d_M_tellWeak_140 : decode (ab_bc mt_M_tellWeak) 140 = .ok (.goto (-123), 3) := by decide +kernel
theorem d_M_tellWeak_143 : decode (ab_bc mt_M_tellWeak) 143 = .ok (.return_, 1) := by decide +kernel
-- CableKeeperModel.tellWeak()V over mx
theorem q_M_tellWeak_0 {w : ab_Wd} {d n nc ns : Nat} {I : Nat → Nat → Int32} {L : Nat → Nat → Int64} {res : ab_Re}  (hc : nc ≤ res.2.2.2.2.2.1) (hs : ns ≤ res.2.2.2.2.2.2)
    (h : ∃ (r1 : Int32) (I2 : Nat → Nat → Int32), ab_C w d mt_M_piecesNow [.ref mx] (I, L, ab_RR, n, nc, ns) (.inl (some (.int r1)), (I2, L, ab_RR, n, nc, ns)) ∧ ab_E w (d + 1) mt_M_tellWeak 17 [.ref mx, .int r1, .int 0, .null] [] ((ab_up (ab_up I2 mx 31 0) mx 32 (-1)), L, ab_RR, n, nc, ns) res) : ab_E w (d + 1) mt_M_tellWeak 0 [.ref mx, .null, .null, .null] [] (I, L, ab_RR, n, nc, ns) res := by
  refine ab_aload_n (i := 0) d_M_tellWeak_0 rfl rfl ?_
  obtain ⟨r1, I2, hC, h⟩ := h
  refine ab_callV (me2 := mt_M_piecesNow) (b := mx) (as := []) (st := []) (rv := (some (.int r1))) (M2 := (I2, L, ab_RR, n, nc, ns)) d_M_tellWeak_1 ce_M_piecesNow v_1667 v_1669 v_86 (by decide) rfl (Nat.le_of_ble_eq_true rfl) hC (Nat.le_refl _) (Nat.le_refl _) hc hs (fun j h9 => by cases h9) (fun _ _ => rfl) ?_
  show ab_E w (d + 1) mt_M_tellWeak 4 [.ref mx, .null, .null, .null] [.int r1] (I2, L, ab_RR, n, nc, ns) res
  refine ab_istore_n (i := 1) d_M_tellWeak_4 rfl (by decide) (Or.inr rfl) ?_
  refine ab_aload_n (i := 0) d_M_tellWeak_5 rfl rfl ?_
  refine ab_iconst (v := 0) d_M_tellWeak_6 rfl ?_
  refine ab_putI (ci := 11) (k := 31) d_M_tellWeak_7 v_1399 rfl (by decide) (by decide) rfl (Or.inl rfl) rfl rfl ?_
  refine ab_aload_n (i := 0) d_M_tellWeak_10 rfl rfl ?_
  refine ab_iconst (v := (-1)) d_M_tellWeak_11 rfl ?_
  refine ab_putI (ci := 11) (k := 32) d_M_tellWeak_12 v_1400 rfl (by decide) (by decide) rfl (Or.inl rfl) rfl rfl ?_
  refine ab_iconst (v := 0) d_M_tellWeak_15 rfl ?_
  refine ab_istore_n (i := 2) d_M_tellWeak_16 rfl (by decide) (Or.inr rfl) ?_
  exact h
theorem q_M_tellWeak_17 {w : ab_Wd} {d n nc ns : Nat} {I : Nat → Nat → Int32} {L : Nat → Nat → Int64} {res : ab_Re} (v1 : Int32) (v2 : Int32) (hc : nc ≤ res.2.2.2.2.2.1) (hs : ns ≤ res.2.2.2.2.2.2)
    (h : ∃ (r1 : Int32), ab_C w d mt_M_many [.ref mx] (I, L, ab_RR, n, nc, ns) (.inl (some (.int r1)), (I, L, ab_RR, n, nc, ns)) ∧ ((r1 ≤ v2 → (res = (.inl none, (I, L, ab_RR, n, nc, ns)))) ∧ (¬ r1 ≤ v2 → (∃ (r3 : Int32), ab_C w d mt_M_isSound [.ref mx, .int v2] (I, L, ab_RR, n, nc, ns) (.inl (some (.int r3)), (I, L, ab_RR, n, nc, ns)) ∧ ((r3 = 0 → (ab_E w (d + 1) mt_M_tellWeak 137 [.ref mx, .int v1, .int v2, .null] [] (I, L, ab_RR, n, nc, ns) res)) ∧ (¬ r3 = 0 → (∃ (r5 : Int32) (I6 : Nat → Nat → Int32), ab_C w d mt_M_isApart [.ref mx, .int ((1 : Int32) <<< (v2 &&& 31)), .int v1] (I, L, ab_RR, n, nc, ns) (.inl (some (.int r5)), (I6, L, ab_RR, n, nc, ns)) ∧ ((r5 = 0 → (ab_E w (d + 1) mt_M_tellWeak 51 [.ref mx, .int v1, .int v2, .int (v2 + 1)] [] (I6, L, ab_RR, n, nc, ns) res)) ∧ (¬ r5 = 0 → (ab_E w (d + 1) mt_M_tellWeak 137 [.ref mx, .int v1, .int v2, .null] [] (I6, L, ab_RR, n, nc, ns) res)))))))))) : ab_E w (d + 1) mt_M_tellWeak 17 [.ref mx, .int v1, .int v2, .null] [] (I, L, ab_RR, n, nc, ns) res := by
  refine ab_iload_n (i := 2) d_M_tellWeak_17 rfl rfl ?_
  refine ab_aload_n (i := 0) d_M_tellWeak_18 rfl rfl ?_
  obtain ⟨r1, hC, h⟩ := h
  refine ab_callV (me2 := mt_M_many) (b := mx) (as := []) (st := [.int v2]) (rv := (some (.int r1))) (M2 := (I, L, ab_RR, n, nc, ns)) d_M_tellWeak_19 ce_M_many v_1635 v_1637 v_79 (by decide) rfl (Nat.le_of_ble_eq_true rfl) hC (Nat.le_refl _) (Nat.le_refl _) hc hs (fun j h9 => by cases h9) (fun _ _ => rfl) ?_
  show ab_E w (d + 1) mt_M_tellWeak 22 [.ref mx, .int v1, .int v2, .null] [.int r1, .int v2] (I, L, ab_RR, n, nc, ns) res
  refine ab_icmp_ge (tgt := 143) d_M_tellWeak_22 (by decide) (fun c2 => ?_) (fun c2 => ?_)
  · have h := h.1 c2
    exact ab_vret d_M_tellWeak_143 rfl h
  · have h := h.2 c2
    refine ab_aload_n (i := 0) d_M_tellWeak_25 rfl rfl ?_
    refine ab_iload_n (i := 2) d_M_tellWeak_26 rfl rfl ?_
    obtain ⟨r3, hC, h⟩ := h
    refine ab_callV (me2 := mt_M_isSound) (b := mx) (as := [.int v2]) (st := []) (rv := (some (.int r3))) (M2 := (I, L, ab_RR, n, nc, ns)) d_M_tellWeak_27 ce_M_isSound v_1679 v_1681 v_89 (by decide) rfl (Nat.le_of_ble_eq_true rfl) hC (Nat.le_refl _) (Nat.le_refl _) hc hs (fun j h9 => by cases h9) (fun _ _ => rfl) ?_
    show ab_E w (d + 1) mt_M_tellWeak 30 [.ref mx, .int v1, .int v2, .null] [.int r3] (I, L, ab_RR, n, nc, ns) res
    refine ab_if_eq (tgt := 137) d_M_tellWeak_30 (by decide) (fun c4 => ?_) (fun c4 => ?_)
    · have h := h.1 c4
      exact h
    · have h := h.2 c4
      refine ab_aload_n (i := 0) d_M_tellWeak_33 rfl rfl ?_
      refine ab_iconst (v := 1) d_M_tellWeak_34 rfl ?_
      refine ab_iload_n (i := 2) d_M_tellWeak_35 rfl rfl ?_
      refine ab_ishl d_M_tellWeak_36 ?_
      refine ab_iload_n (i := 1) d_M_tellWeak_37 rfl rfl ?_
      obtain ⟨r5, I6, hC, h⟩ := h
      refine ab_callV (me2 := mt_M_isApart) (b := mx) (as := [.int ((1 : Int32) <<< (v2 &&& 31)), .int v1]) (st := []) (rv := (some (.int r5))) (M2 := (I6, L, ab_RR, n, nc, ns)) d_M_tellWeak_38 ce_M_isApart v_1723 v_1725 v_100 (by decide) rfl (Nat.le_of_ble_eq_true rfl) hC (Nat.le_refl _) (Nat.le_refl _) hc hs (fun j h9 => by cases h9) (fun _ _ => rfl) ?_
      show ab_E w (d + 1) mt_M_tellWeak 41 [.ref mx, .int v1, .int v2, .null] [.int r5] (I6, L, ab_RR, n, nc, ns) res
      refine ab_if_eq (tgt := 47) d_M_tellWeak_41 (by decide) (fun c7 => ?_) (fun c7 => ?_)
      · have h := h.1 c7
        refine ab_iload_n (i := 2) d_M_tellWeak_47 rfl rfl ?_
        refine ab_iconst (v := 1) d_M_tellWeak_48 rfl ?_
        refine ab_iadd d_M_tellWeak_49 ?_
        refine ab_istore_n (i := 3) d_M_tellWeak_50 rfl (by decide) (Or.inr rfl) ?_
        exact h
      · have h := h.2 c7
        refine ab_goto (tgt := 137) d_M_tellWeak_44 (by decide) ?_
        exact h
theorem q_M_tellWeak_51 {w : ab_Wd} {d n nc ns : Nat} {I : Nat → Nat → Int32} {L : Nat → Nat → Int64} {res : ab_Re} (v1 : Int32) (v2 : Int32) (v3 : Int32) (hc : nc ≤ res.2.2.2.2.2.1) (hs : ns ≤ res.2.2.2.2.2.2)
    (h : ∃ (r1 : Int32), ab_C w d mt_M_many [.ref mx] (I, L, ab_RR, n, nc, ns) (.inl (some (.int r1)), (I, L, ab_RR, n, nc, ns)) ∧ ((r1 ≤ v3 → (ab_E w (d + 1) mt_M_tellWeak 137 [.ref mx, .int v1, .int v2, .null] [] (I, L, ab_RR, n, nc, ns) res)) ∧ (¬ r1 ≤ v3 → (∃ (r3 : Int32), ab_C w d mt_M_isSound [.ref mx, .int v3] (I, L, ab_RR, n, nc, ns) (.inl (some (.int r3)), (I, L, ab_RR, n, nc, ns)) ∧ ((r3 = 0 → (ab_E w (d + 1) mt_M_tellWeak 131 [.ref mx, .int v1, .int v2, .int v3] [] (I, L, ab_RR, n, nc, ns) res)) ∧ (¬ r3 = 0 → (∃ (r5 : Int32) (I6 : Nat → Nat → Int32), ab_C w d mt_M_isApart [.ref mx, .int ((1 : Int32) <<< (v3 &&& 31)), .int v1] (I, L, ab_RR, n, nc, ns) (.inl (some (.int r5)), (I6, L, ab_RR, n, nc, ns)) ∧ ((¬ r5 = 0 → (ab_E w (d + 1) mt_M_tellWeak 131 [.ref mx, .int v1, .int v2, .int v3] [] (I6, L, ab_RR, n, nc, ns) res)) ∧ (r5 = 0 → (∃ (r8 : Int32) (I9 : Nat → Nat → Int32), ab_C w d mt_M_isApart [.ref mx, .int (((1 : Int32) <<< (v2 &&& 31)) ||| ((1 : Int32) <<< (v3 &&& 31))), .int v1] (I6, L, ab_RR, n, nc, ns) (.inl (some (.int r8)), (I9, L, ab_RR, n, nc, ns)) ∧ ((¬ r8 = 0 → ((¬ (I9 mx 32) = (-1) → (ab_E w (d + 1) mt_M_tellWeak 118 [.ref mx, .int v1, .int v2, .int v3] [.int (I9 mx 32), .ref mx] (I9, L, ab_RR, n, nc, ns) res)) ∧ ((I9 mx 32) = (-1) → (ab_E w (d + 1) mt_M_tellWeak 118 [.ref mx, .int v1, .int v2, .int v3] [.int ((100 * v2) + v3), .ref mx] (I9, L, ab_RR, n, nc, ns) res)))) ∧ (r8 = 0 → (ab_E w (d + 1) mt_M_tellWeak 131 [.ref mx, .int v1, .int v2, .int v3] [] (I9, L, ab_RR, n, nc, ns) res))))))))))))) : ab_E w (d + 1) mt_M_tellWeak 51 [.ref mx, .int v1, .int v2, .int v3] [] (I, L, ab_RR, n, nc, ns) res := by
  refine ab_iload_n (i := 3) d_M_tellWeak_51 rfl rfl ?_
  refine ab_aload_n (i := 0) d_M_tellWeak_52 rfl rfl ?_
  obtain ⟨r1, hC, h⟩ := h
  refine ab_callV (me2 := mt_M_many) (b := mx) (as := []) (st := [.int v3]) (rv := (some (.int r1))) (M2 := (I, L, ab_RR, n, nc, ns)) d_M_tellWeak_53 ce_M_many v_1635 v_1637 v_79 (by decide) rfl (Nat.le_of_ble_eq_true rfl) hC (Nat.le_refl _) (Nat.le_refl _) hc hs (fun j h9 => by cases h9) (fun _ _ => rfl) ?_
  show ab_E w (d + 1) mt_M_tellWeak 56 [.ref mx, .int v1, .int v2, .int v3] [.int r1, .int v3] (I, L, ab_RR, n, nc, ns) res
  refine ab_icmp_ge (tgt := 137) d_M_tellWeak_56 (by decide) (fun c2 => ?_) (fun c2 => ?_)
  · have h := h.1 c2
    refine ab_drop 3 ?_
    exact h
  · have h := h.2 c2
    refine ab_aload_n (i := 0) d_M_tellWeak_59 rfl rfl ?_
    refine ab_iload_n (i := 3) d_M_tellWeak_60 rfl rfl ?_
    obtain ⟨r3, hC, h⟩ := h
    refine ab_callV (me2 := mt_M_isSound) (b := mx) (as := [.int v3]) (st := []) (rv := (some (.int r3))) (M2 := (I, L, ab_RR, n, nc, ns)) d_M_tellWeak_61 ce_M_isSound v_1679 v_1681 v_89 (by decide) rfl (Nat.le_of_ble_eq_true rfl) hC (Nat.le_refl _) (Nat.le_refl _) hc hs (fun j h9 => by cases h9) (fun _ _ => rfl) ?_
    show ab_E w (d + 1) mt_M_tellWeak 64 [.ref mx, .int v1, .int v2, .int v3] [.int r3] (I, L, ab_RR, n, nc, ns) res
    refine ab_if_eq (tgt := 131) d_M_tellWeak_64 (by decide) (fun c4 => ?_) (fun c4 => ?_)
    · have h := h.1 c4
      exact h
    · have h := h.2 c4
      refine ab_aload_n (i := 0) d_M_tellWeak_67 rfl rfl ?_
      refine ab_iconst (v := 1) d_M_tellWeak_68 rfl ?_
      refine ab_iload_n (i := 3) d_M_tellWeak_69 rfl rfl ?_
      refine ab_ishl d_M_tellWeak_70 ?_
      refine ab_iload_n (i := 1) d_M_tellWeak_71 rfl rfl ?_
      obtain ⟨r5, I6, hC, h⟩ := h
      refine ab_callV (me2 := mt_M_isApart) (b := mx) (as := [.int ((1 : Int32) <<< (v3 &&& 31)), .int v1]) (st := []) (rv := (some (.int r5))) (M2 := (I6, L, ab_RR, n, nc, ns)) d_M_tellWeak_72 ce_M_isApart v_1723 v_1725 v_100 (by decide) rfl (Nat.le_of_ble_eq_true rfl) hC (Nat.le_refl _) (Nat.le_refl _) hc hs (fun j h9 => by cases h9) (fun _ _ => rfl) ?_
      show ab_E w (d + 1) mt_M_tellWeak 75 [.ref mx, .int v1, .int v2, .int v3] [.int r5] (I6, L, ab_RR, n, nc, ns) res
      refine ab_if_ne (tgt := 131) d_M_tellWeak_75 (by decide) (fun c7 => ?_) (fun c7 => ?_)
      · have h := h.1 c7
        exact h
      · have h := h.2 c7
        refine ab_aload_n (i := 0) d_M_tellWeak_78 rfl rfl ?_
        refine ab_iconst (v := 1) d_M_tellWeak_79 rfl ?_
        refine ab_iload_n (i := 2) d_M_tellWeak_80 rfl rfl ?_
        refine ab_ishl d_M_tellWeak_81 ?_
        refine ab_iconst (v := 1) d_M_tellWeak_82 rfl ?_
        refine ab_iload_n (i := 3) d_M_tellWeak_83 rfl rfl ?_
        refine ab_ishl d_M_tellWeak_84 ?_
        refine ab_ior d_M_tellWeak_85 ?_
        refine ab_iload_n (i := 1) d_M_tellWeak_86 rfl rfl ?_
        obtain ⟨r8, I9, hC, h⟩ := h
        refine ab_callV (me2 := mt_M_isApart) (b := mx) (as := [.int (((1 : Int32) <<< (v2 &&& 31)) ||| ((1 : Int32) <<< (v3 &&& 31))), .int v1]) (st := []) (rv := (some (.int r8))) (M2 := (I9, L, ab_RR, n, nc, ns)) d_M_tellWeak_87 ce_M_isApart v_1723 v_1725 v_100 (by decide) rfl (Nat.le_of_ble_eq_true rfl) hC (Nat.le_refl _) (Nat.le_refl _) hc hs (fun j h9 => by cases h9) (fun _ _ => rfl) ?_
        show ab_E w (d + 1) mt_M_tellWeak 90 [.ref mx, .int v1, .int v2, .int v3] [.int r8] (I9, L, ab_RR, n, nc, ns) res
        refine ab_if_ne (tgt := 96) d_M_tellWeak_90 (by decide) (fun c10 => ?_) (fun c10 => ?_)
        · have h := h.1 c10
          refine ab_aload_n (i := 0) d_M_tellWeak_96 rfl rfl ?_
          refine ab_aload_n (i := 0) d_M_tellWeak_97 rfl rfl ?_
          refine ab_getI (ci := 11) (k := 32) d_M_tellWeak_98 v_1400 rfl (by decide) (by decide) rfl ?_
          refine ab_iconst (v := (-1)) d_M_tellWeak_101 rfl ?_
          refine ab_icmp_ne (tgt := 114) d_M_tellWeak_102 (by decide) (fun c11 => ?_) (fun c11 => ?_)
          · have h := h.1 c11
            refine ab_aload_n (i := 0) d_M_tellWeak_114 rfl rfl ?_
            refine ab_getI (ci := 11) (k := 32) d_M_tellWeak_115 v_1400 rfl (by decide) (by decide) rfl ?_
            exact h
          · have h := h.2 c11
            refine ab_bipush (v := 100) d_M_tellWeak_105 rfl ?_
            refine ab_iload_n (i := 2) d_M_tellWeak_107 rfl rfl ?_
            refine ab_imul d_M_tellWeak_108 ?_
            refine ab_iload_n (i := 3) d_M_tellWeak_109 rfl rfl ?_
            refine ab_iadd d_M_tellWeak_110 ?_
            refine ab_goto (tgt := 118) d_M_tellWeak_111 (by decide) ?_
            exact h
        · have h := h.2 c10
          refine ab_goto (tgt := 131) d_M_tellWeak_93 (by decide) ?_
          exact h
theorem q_M_tellWeak_118 {w : ab_Wd} {d n nc ns : Nat} {I : Nat → Nat → Int32} {L : Nat → Nat → Int64} {res : ab_Re} (v1 : Int32) (v2 : Int32) (v3 : Int32) (s1 : Int32) (hc : nc ≤ res.2.2.2.2.2.1) (hs : ns ≤ res.2.2.2.2.2.2)
    (h : ab_E w (d + 1) mt_M_tellWeak 131 [.ref mx, .int v1, .int v2, .int v3] [] ((ab_up (ab_up I mx 32 s1) mx 31 ((I mx 31) + 1)), L, ab_RR, n, nc, ns) res) : ab_E w (d + 1) mt_M_tellWeak 118 [.ref mx, .int v1, .int v2, .int v3] [.int s1, .ref mx] (I, L, ab_RR, n, nc, ns) res := by
  refine ab_putI (ci := 11) (k := 32) d_M_tellWeak_118 v_1400 rfl (by decide) (by decide) rfl (Or.inl rfl) rfl rfl ?_
  refine ab_aload_n (i := 0) d_M_tellWeak_121 rfl rfl ?_
  refine ab_dupr d_M_tellWeak_122 ?_
  refine ab_getI (ci := 11) (k := 31) d_M_tellWeak_123 v_1399 rfl (by decide) (by decide) rfl ?_
  refine ab_iconst (v := 1) d_M_tellWeak_126 rfl ?_
  refine ab_iadd d_M_tellWeak_127 ?_
  refine ab_putI (ci := 11) (k := 31) d_M_tellWeak_128 v_1399 rfl (by decide) (by decide) rfl (Or.inl rfl) rfl rfl ?_
  exact h
theorem q_M_tellWeak_131 {w : ab_Wd} {d n nc ns : Nat} {I : Nat → Nat → Int32} {L : Nat → Nat → Int64} {res : ab_Re} (v1 : Int32) (v2 : Int32) (v3 : Int32) (hc : nc ≤ res.2.2.2.2.2.1) (hs : ns ≤ res.2.2.2.2.2.2)
    (h : ab_E w (d + 1) mt_M_tellWeak 51 [.ref mx, .int v1, .int v2, .int (v3 + 1)] [] (I, L, ab_RR, n, nc, ns) res) : ab_E w (d + 1) mt_M_tellWeak 131 [.ref mx, .int v1, .int v2, .int v3] [] (I, L, ab_RR, n, nc, ns) res := by
  refine ab_iinc (i := 3) (v := (v3 + 1)) d_M_tellWeak_131 rfl rfl (by decide) (Or.inr rfl) ?_
  refine ab_goto (tgt := 51) d_M_tellWeak_134 (by decide) ?_
  exact h
theorem q_M_tellWeak_137 {w : ab_Wd} {d n nc ns : Nat} {I : Nat → Nat → Int32} {L : Nat → Nat → Int64} {res : ab_Re} (v1 : Int32) (v2 : Int32) (hc : nc ≤ res.2.2.2.2.2.1) (hs : ns ≤ res.2.2.2.2.2.2)
    (h : ab_E w (d + 1) mt_M_tellWeak 17 [.ref mx, .int v1, .int (v2 + 1), .null] [] (I, L, ab_RR, n, nc, ns) res) : ab_E w (d + 1) mt_M_tellWeak 137 [.ref mx, .int v1, .int v2, .null] [] (I, L, ab_RR, n, nc, ns) res := by
  refine ab_iinc (i := 2) (v := (v2 + 1)) d_M_tellWeak_137 rfl rfl (by decide) (Or.inr rfl) ?_
  refine ab_goto (tgt := 17) d_M_tellWeak_140 (by decide) ?_
  exact h
theorem d_M_isCable_0 : decode (ab_bc mt_M_isCable) 0 = .ok (.iload_n 1, 1) := by decide +kernel
theorem d_M_isCable_1 : decode (ab_bc mt_M_isCable) 1 = .ok (.iconst 0, 1) := by decide +kernel
theorem d_M_isCable_2 : decode (ab_bc mt_M_isCable) 2 = .ok (.aload_n 0, 1) := by decide +kernel
theorem d_M_isCable_3 : decode (ab_bc mt_M_isCable) 3 = .ok (.invokevirtual 234, 3) := by decide +kernel
theorem d_M_isCable_6 : decode (ab_bc mt_M_isCable) 6 = .ok (.iconst 1, 1) := by decide +kernel
theorem d_M_isCable_7 : decode (ab_bc mt_M_isCable) 7 = .ok (.isub, 1) := by decide +kernel
theorem d_M_isCable_8 : decode (ab_bc mt_M_isCable) 8 = .ok (.invokestatic 344, 3) := by decide +kernel
theorem d_M_isCable_11 : decode (ab_bc mt_M_isCable) 11 = .ok (.ireturn, 1) := by decide +kernel
-- CableKeeperModel.isCable(I)Z over mx
theorem q_M_isCable_0 {w : ab_Wd} {d n nc ns : Nat} {I : Nat → Nat → Int32} {L : Nat → Nat → Int64} {res : ab_Re} (v1 : Int32) (hc : nc ≤ res.2.2.2.2.2.1) (hs : ns ≤ res.2.2.2.2.2.2)
    (h : ∃ (r1 : Int32), ab_C w d mt_M_many [.ref mx] (I, L, ab_RR, n, nc, ns) (.inl (some (.int r1)), (I, L, ab_RR, n, nc, ns)) ∧ ∃ (r2 : Int32), ab_C w d mt_M_isIn [.int v1, .int 0, .int (r1 - 1)] (I, L, ab_RR, n, nc, ns) (.inl (some (.int r2)), (I, L, ab_RR, n, nc, ns)) ∧ (narrow .boolean (.int r2) = .int r2) ∧ res = (.inl (some (.int r2)), (I, L, ab_RR, n, nc, ns))) : ab_E w (d + 1) mt_M_isCable 0 [.ref mx, .int v1] [] (I, L, ab_RR, n, nc, ns) res := by
  refine ab_iload_n (i := 1) d_M_isCable_0 rfl rfl ?_
  refine ab_iconst (v := 0) d_M_isCable_1 rfl ?_
  refine ab_aload_n (i := 0) d_M_isCable_2 rfl rfl ?_
  obtain ⟨r1, hC, h⟩ := h
  refine ab_callV (me2 := mt_M_many) (b := mx) (as := []) (st := [.int 0, .int v1]) (rv := (some (.int r1))) (M2 := (I, L, ab_RR, n, nc, ns)) d_M_isCable_3 ce_M_many v_1635 v_1637 v_79 (by decide) rfl (Nat.le_of_ble_eq_true rfl) hC (Nat.le_refl _) (Nat.le_refl _) hc hs (fun j h9 => by cases h9) (fun _ _ => rfl) ?_
  show ab_E w (d + 1) mt_M_isCable 6 [.ref mx, .int v1] [.int r1, .int 0, .int v1] (I, L, ab_RR, n, nc, ns) res
  refine ab_iconst (v := 1) d_M_isCable_6 rfl ?_
  refine ab_isub d_M_isCable_7 ?_
  obtain ⟨r2, hC, h⟩ := h
  refine ab_callS (me2 := mt_M_isIn) (as := [.int v1, .int 0, .int (r1 - 1)]) (st := []) (rv := (some (.int r2))) (M2 := (I, L, ab_RR, n, nc, ns)) d_M_isCable_8 ce_M_isIn ⟨v_1753, Or.inl v_1752⟩ (Nat.le_of_ble_eq_true rfl) hC (Nat.le_refl _) (Nat.le_refl _) hc hs (fun j h9 => by cases h9) (fun _ _ => rfl) ?_
  show ab_E w (d + 1) mt_M_isCable 11 [.ref mx, .int v1] [.int r2] (I, L, ab_RR, n, nc, ns) res
  have g := h.1; have h := h.2
  exact ab_iret (ty := .boolean) d_M_isCable_11 rfl g h
theorem d_M_isSite_0 : decode (ab_bc mt_M_isSite) 0 = .ok (.iload_n 1, 1) := by decide +kernel
theorem d_M_isSite_1 : decode (ab_bc mt_M_isSite) 1 = .ok (.iconst 0, 1) := by decide +kernel
theorem d_M_isSite_2 : decode (ab_bc mt_M_isSite) 2 = .ok (.aload_n 0, 1) := by decide +kernel
theorem d_M_isSite_3 : decode (ab_bc mt_M_isSite) 3 = .ok (.getfield 21, 3) := by decide +kernel
theorem d_M_isSite_6 : decode (ab_bc mt_M_isSite) 6 = .ok (.iconst 1, 1) := by decide +kernel
theorem d_M_isSite_7 : decode (ab_bc mt_M_isSite) 7 = .ok (.isub, 1) := by decide +kernel
theorem d_M_isSite_8 : decode (ab_bc mt_M_isSite) 8 = .ok (.invokestatic 344, 3) := by decide +kernel
theorem d_M_isSite_11 : decode (ab_bc mt_M_isSite) 11 = .ok (.ireturn, 1) := by decide +kernel
-- CableKeeperModel.isSite(I)Z over mx
theorem q_M_isSite_0 {w : ab_Wd} {d n nc ns : Nat} {I : Nat → Nat → Int32} {L : Nat → Nat → Int64} {res : ab_Re} (v1 : Int32) (hc : nc ≤ res.2.2.2.2.2.1) (hs : ns ≤ res.2.2.2.2.2.2)
    (h : ∃ (r1 : Int32), ab_C w d mt_M_isIn [.int v1, .int 0, .int ((I mx 2) - 1)] (I, L, ab_RR, n, nc, ns) (.inl (some (.int r1)), (I, L, ab_RR, n, nc, ns)) ∧ (narrow .boolean (.int r1) = .int r1) ∧ res = (.inl (some (.int r1)), (I, L, ab_RR, n, nc, ns))) : ab_E w (d + 1) mt_M_isSite 0 [.ref mx, .int v1] [] (I, L, ab_RR, n, nc, ns) res := by
  refine ab_iload_n (i := 1) d_M_isSite_0 rfl rfl ?_
  refine ab_iconst (v := 0) d_M_isSite_1 rfl ?_
  refine ab_aload_n (i := 0) d_M_isSite_2 rfl rfl ?_
  refine ab_getI (ci := 11) (k := 2) d_M_isSite_3 v_1370 rfl (by decide) (by decide) rfl ?_
  refine ab_iconst (v := 1) d_M_isSite_6 rfl ?_
  refine ab_isub d_M_isSite_7 ?_
  obtain ⟨r1, hC, h⟩ := h
  refine ab_callS (me2 := mt_M_isIn) (as := [.int v1, .int 0, .int ((I mx 2) - 1)]) (st := []) (rv := (some (.int r1))) (M2 := (I, L, ab_RR, n, nc, ns)) d_M_isSite_8 ce_M_isIn ⟨v_1753, Or.inl v_1752⟩ (Nat.le_of_ble_eq_true rfl) hC (Nat.le_refl _) (Nat.le_refl _) hc hs (fun j h9 => by cases h9) (fun _ _ => rfl) ?_
  show ab_E w (d + 1) mt_M_isSite 11 [.ref mx, .int v1] [.int r1] (I, L, ab_RR, n, nc, ns) res
  have g := h.1; have h := h.2
  exact ab_iret (ty := .boolean) d_M_isSite_11 rfl g h
