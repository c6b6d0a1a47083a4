theorem d_M_site_0 : decode (ab_bc mt_M_site) 0 = .ok (.aload_n 0, 1) := by decide +kernel
theorem d_M_site_1 : decode (ab_bc mt_M_site) 1 = .ok (.iconst 0, 1) := by decide +kernel
theorem d_M_site_2 : decode (ab_bc mt_M_site) 2 = .ok (.putfield 108, 3) := by decide +kernel
theorem d_M_site_5 : decode (ab_bc mt_M_site) 5 = .ok (.aload_n 0, 1) := by decide +kernel
theorem d_M_site_6 : decode (ab_bc mt_M_site) 6 = .ok (.iload_n 1, 1) := by decide +kernel
theorem d_M_site_7 : decode (ab_bc mt_M_site) 7 = .ok (.invokevirtual 357, 3) := by decide +kernel
theorem d_M_site_10 : decode (ab_bc mt_M_site) 10 = .ok (.ifCond .eq 12, 3) := by decide +kernel
theorem d_M_site_13 : decode (ab_bc mt_M_site) 13 = .ok (.iload_n 2, 1) := by decide +kernel
theorem d_M_site_14 : decode (ab_bc mt_M_site) 14 = .ok (.iconst 0, 1) := by decide +kernel
theorem d_M_site_15 : decode (ab_bc mt_M_site) 15 = .ok (.iconst 3, 1) := by decide +kernel
theorem d_M_site_16 : decode (ab_bc mt_M_site) 16 = .ok (.invokestatic 344, 3) := by decide +kernel
theorem d_M_site_19 : decode (ab_bc mt_M_site) 19 = .ok (.ifCond .ne 9, 3) := by decide +kernel
theorem d_M_site_22 : decode (ab_bc mt_M_site) 22 = .ok (.aload_n 0, 1) := by decide +kernel
theorem d_M_site_23 : decode (ab_bc mt_M_site) 23 = .ok (.iconst 1, 1) := by decide +kernel
theorem d_M_site_24 : decode (ab_bc mt_M_site) 24 = .ok (.invokevirtual 202, 3) := by decide +kernel
theorem d_M_site_27 : decode (ab_bc mt_M_site) 27 = .ok (.ireturn, 1) := by decide +kernel
theorem d_M_site_28 : decode (ab_bc mt_M_site) 28 = .ok (.iload_n 2, 1) := by decide +kernel
theorem d_M_site_29 : decode (ab_bc mt_M_site) 29 = .ok (.iconst 3, 1) := by decide +kernel
theorem d_M_site_30 : decode (ab_bc mt_M_site) 30 = .ok (.if_icmp .ne 9, 3) := by decide +kernel
theorem d_M_site_33 : decode (ab_bc mt_M_site) 33 = .ok (.aload_n 0, 1) := by decide +kernel
theorem d_M_site_34 : decode (ab_bc mt_M_site) 34 = .ok (.iload_n 1, 1) := by decide +kernel
theorem d_M_site_35 : decode (ab_bc mt_M_site) 35 = .ok (.invokevirtual 360, 3) := by decide +kernel
theorem d_M_site_38 : decode (ab_bc mt_M_site) 38 = .ok (.ireturn, 1) := by decide +kernel
theorem d_M_site_39 : decode (ab_bc mt_M_site) 39 = .ok (.aload_n 0, 1) := by decide +kernel
theorem d_M_site_40 : decode (ab_bc mt_M_site) 40 = .ok (.invokevirtual 251, 3) := by decide +kernel
theorem d_M_site_43 : decode (ab_bc mt_M_site) 43 = .ok (.istore_n 3, 1) := by decide +kernel
theorem d_M_site_44 : decode (ab_bc mt_M_site) 44 = .ok (.aload_n 0, 1) := by decide +kernel
theorem d_M_site_45 : decode (ab_bc mt_M_site) 45 = .ok (.iload_n 3, 1) := by decide +kernel
theorem d_M_site_46 : decode (ab_bc mt_M_site) 46 = .ok (.iload_n 1, 1) := by decide +kernel
theorem d_M_site_47 : decode (ab_bc mt_M_site) 47 = .ok (.invokevirtual 288, 3) := by decide +kernel
theorem d_M_site_50 : decode (ab_bc mt_M_site) 50 = .ok (.istore 4, 2) := by decide +kernel
theorem d_M_site_52 : decode (ab_bc mt_M_site) 52 = .ok (.iload_n 2, 1) := by decide +kernel
theorem d_M_site_53 : decode (ab_bc mt_M_site) 53 = .ok (.ifCond .ne 8, 3) := by decide +kernel
theorem d_M_site_56 : decode (ab_bc mt_M_site) 56 = .ok (.iload 4, 2) := by decide +kernel
theorem d_M_site_58 : decode (ab_bc mt_M_site) 58 = .ok (.goto 28, 3) := by decide +kernel
theorem d_M_site_61 : decode (ab_bc mt_M_site) 61 = .ok (.iload_n 2, 1) := by decide +kernel
theorem d_M_site_62 : decode (ab_bc mt_M_site) 62 = .ok (.iconst 1, 1) := by decide +kernel
theorem d_M_site_63 : decode (ab_bc mt_M_site) 63 = .ok (.if_icmp .ne 17, 3) := by decide +kernel
theorem d_M_site_66 : decode (ab_bc mt_M_site) 66 = .ok (.iload 4, 2) := by decide +kernel
theorem d_M_site_68 : decode (ab_bc mt_M_site) 68 = .ok (.iconst 1, 1) := by decide +kernel
theorem d_M_site_69 : decode (ab_bc mt_M_site) 69 = .ok (.if_icmp .ne 7, 3) := by decide +kernel
theorem d_M_site_72 : decode (ab_bc mt_M_site) 72 = .ok (.iconst 1, 1) := by decide +kernel
theorem d_M_site_73 : decode (ab_bc mt_M_site) 73 = .ok (.goto 13, 3) := by decide +kernel
theorem d_M_site_76 : decode (ab_bc mt_M_site) 76 = .ok (.iconst 0, 1) := by decide +kernel
theorem d_M_site_77 : decode (ab_bc mt_M_site) 77 = .ok (.goto 9, 3) := by decide +kernel
theorem d_M_site_80 : decode (ab_bc mt_M_site) 80 = .ok (.aload_n 0, 1) := by decide +kernel
theorem d_M_site_81 : decode (ab_bc mt_M_site) 81 = .ok (.getfield 40, 3) := by decide +kernel
theorem d_M_site_84 : decode (ab_bc mt_M_site) 84 = .ok (.iload_n 1, 1) := by decide +kernel
theorem d_M_site_85 : decode (ab_bc mt_M_site) 85 = .ok (.iaload, 1) := by decide +kernel
theorem d_M_site_86 : decode (ab_bc mt_M_site) 86 = .ok (.ireturn, 1) := by decide +kernel
-- CableKeeperModel.site(II)I over mx
theorem q_M_site_0 {w : ab_Wd} {d n nc ns : Nat} {I : Nat → Nat → Int32} {L : Nat → Nat → Int64} {res : ab_Re} (v1 : Int32) (v2 : Int32) (hc : nc ≤ res.2.2.2.2.2.1) (hs : ns ≤ res.2.2.2.2.2.2)
    (h : ∃ (r1 : Int32), ab_C w d mt_M_isSite [.ref mx, .int v1] ((ab_up I mx 1 0), L, ab_RR, n, nc, ns) (.inl (some (.int r1)), ((ab_up I mx 1 0), L, ab_RR, n, nc, ns)) ∧ ((r1 = 0 → (ab_E w (d + 1) mt_M_site 22 [.ref mx, .int v1, .int v2, .null, .null] [] ((ab_up I mx 1 0), L, ab_RR, n, nc, ns) res)) ∧ (¬ r1 = 0 → (∃ (r3 : Int32), ab_C w d mt_M_isIn [.int v2, .int 0, .int 3] ((ab_up I mx 1 0), L, ab_RR, n, nc, ns) (.inl (some (.int r3)), ((ab_up I mx 1 0), L, ab_RR, n, nc, ns)) ∧ ((¬ r3 = 0 → ((¬ v2 = 3 → (∃ (r6 : Int32) (I7 : Nat → Nat → Int32), ab_C w d mt_M_netNow [.ref mx] ((ab_up I mx 1 0), L, ab_RR, n, nc, ns) (.inl (some (.int r6)), (I7, L, ab_RR, n, nc, ns)) ∧ ∃ (r8 : Int32), ab_C w d mt_M_endsAt [.ref mx, .int r6, .int v1] (I7, L, ab_RR, n, nc, ns) (.inl (some (.int r8)), (I7, L, ab_RR, n, nc, ns)) ∧ ((¬ v2 = 0 → ((¬ v2 = 1 → ((vp_in v1 10) ∧ ab_E w (d + 1) mt_M_site 86 [.ref mx, .int v1, .int v2, .int r6, .int r8] [.int (I7 mx_piece v1.toNatClampNeg)] (I7, L, ab_RR, n, nc, ns) res)) ∧ (v2 = 1 → ((¬ r8 = 1 → (ab_E w (d + 1) mt_M_site 86 [.ref mx, .int v1, .int v2, .int r6, .int r8] [.int 0] (I7, L, ab_RR, n, nc, ns) res)) ∧ (r8 = 1 → (ab_E w (d + 1) mt_M_site 86 [.ref mx, .int v1, .int v2, .int r6, .int r8] [.int 1] (I7, L, ab_RR, n, nc, ns) res)))))) ∧ (v2 = 0 → (ab_E w (d + 1) mt_M_site 86 [.ref mx, .int v1, .int v2, .int r6, .int r8] [.int r8] (I7, L, ab_RR, n, nc, ns) res))))) ∧ (v2 = 3 → (∃ (r13 : Int32) (I14 : Nat → Nat → Int32), ab_C w d mt_M_aloneOf [.ref mx, .int v1] ((ab_up I mx 1 0), L, ab_RR, n, nc, ns) (.inl (some (.int r13)), (I14, L, ab_RR, n, nc, ns)) ∧ res = (.inl (some (.int r13)), (I14, L, ab_RR, n, nc, ns)))))) ∧ (r3 = 0 → (ab_E w (d + 1) mt_M_site 22 [.ref mx, .int v1, .int v2, .null, .null] [] ((ab_up I mx 1 0), L, ab_RR, n, nc, ns) res))))))) : ab_E w (d + 1) mt_M_site 0 [.ref mx, .int v1, .int v2, .null, .null] [] (I, L, ab_RR, n, nc, ns) res := by
  refine ab_aload_n (i := 0) d_M_site_0 rfl rfl ?_
  refine ab_iconst (v := 0) d_M_site_1 rfl ?_
  refine ab_putI (ci := 11) (k := 1) d_M_site_2 v_1369 rfl (by decide) (by decide) rfl (Or.inl rfl) rfl rfl ?_
  refine ab_aload_n (i := 0) d_M_site_5 rfl rfl ?_
  refine ab_iload_n (i := 1) d_M_site_6 rfl rfl ?_
  obtain ⟨r1, hC, h⟩ := h
  refine ab_callV (me2 := mt_M_isSite) (b := mx) (as := [.int v1]) (st := []) (rv := (some (.int r1))) (M2 := ((ab_up I mx 1 0), L, ab_RR, n, nc, ns)) d_M_site_7 ce_M_isSite v_1783 v_1785 v_110 (by decide) rfl (Nat.le_of_ble_eq_true rfl) hC (Nat.le_refl _) (Nat.le_refl _) hc hs (fun j h9 => by cases h9) (fun _ _ => rfl) ?_
  show ab_E w (d + 1) mt_M_site 10 [.ref mx, .int v1, .int v2, .null, .null] [.int r1] ((ab_up I mx 1 0), L, ab_RR, n, nc, ns) res
  refine ab_if_eq (tgt := 22) d_M_site_10 (by decide) (fun c2 => ?_) (fun c2 => ?_)
  · have h := h.1 c2
    exact h
  · have h := h.2 c2
    refine ab_iload_n (i := 2) d_M_site_13 rfl rfl ?_
    refine ab_iconst (v := 0) d_M_site_14 rfl ?_
    refine ab_iconst (v := 3) d_M_site_15 rfl ?_
    obtain ⟨r3, hC, h⟩ := h
    refine ab_callS (me2 := mt_M_isIn) (as := [.int v2, .int 0, .int 3]) (st := []) (rv := (some (.int r3))) (M2 := ((ab_up I mx 1 0), L, ab_RR, n, nc, ns)) d_M_site_16 ce_M_isIn ⟨v_1753, Or.inl v_1752⟩ (Nat.le_of_ble_eq_true rfl) hC (Nat.le_refl _) (Nat.le_refl _) hc hs (fun j h9 => by cases h9) (fun _ _ => rfl) ?_
    show ab_E w (d + 1) mt_M_site 19 [.ref mx, .int v1, .int v2, .null, .null] [.int r3] ((ab_up I mx 1 0), L, ab_RR, n, nc, ns) res
    refine ab_if_ne (tgt := 28) d_M_site_19 (by decide) (fun c4 => ?_) (fun c4 => ?_)
    · have h := h.1 c4
      refine ab_iload_n (i := 2) d_M_site_28 rfl rfl ?_
      refine ab_iconst (v := 3) d_M_site_29 rfl ?_
      refine ab_icmp_ne (tgt := 39) d_M_site_30 (by decide) (fun c5 => ?_) (fun c5 => ?_)
      · have h := h.1 c5
        refine ab_aload_n (i := 0) d_M_site_39 rfl rfl ?_
        obtain ⟨r6, I7, hC, h⟩ := h
        refine ab_callV (me2 := mt_M_netNow) (b := mx) (as := []) (st := []) (rv := (some (.int r6))) (M2 := (I7, L, ab_RR, n, nc, ns)) d_M_site_40 ce_M_netNow v_1639 v_1641 v_80 (by decide) rfl (Nat.le_of_ble_eq_true rfl) hC (Nat.le_refl _) (Nat.le_refl _) hc hs (fun j h9 => by cases h9) (fun _ _ => rfl) ?_
        show ab_E w (d + 1) mt_M_site 43 [.ref mx, .int v1, .int v2, .null, .null] [.int r6] (I7, L, ab_RR, n, nc, ns) res
        refine ab_istore_n (i := 3) d_M_site_43 rfl (by decide) (Or.inr rfl) ?_
        refine ab_aload_n (i := 0) d_M_site_44 rfl rfl ?_
        refine ab_iload_n (i := 3) d_M_site_45 rfl rfl ?_
        refine ab_iload_n (i := 1) d_M_site_46 rfl rfl ?_
        obtain ⟨r8, hC, h⟩ := h
        refine ab_callV (me2 := mt_M_endsAt) (b := mx) (as := [.int r6, .int v1]) (st := []) (rv := (some (.int r8))) (M2 := (I7, L, ab_RR, n, nc, ns)) d_M_site_47 ce_M_endsAt v_1703 v_1705 v_95 (by decide) rfl (Nat.le_of_ble_eq_true rfl) hC (Nat.le_refl _) (Nat.le_refl _) hc hs (fun j h9 => by cases h9) (fun _ _ => rfl) ?_
        show ab_E w (d + 1) mt_M_site 50 [.ref mx, .int v1, .int v2, .int r6, .null] [.int r8] (I7, L, ab_RR, n, nc, ns) res
        refine ab_istore (i := 4) d_M_site_50 (by decide) (Or.inr rfl) ?_
        refine ab_iload_n (i := 2) d_M_site_52 rfl rfl ?_
        refine ab_if_ne (tgt := 61) d_M_site_53 (by decide) (fun c9 => ?_) (fun c9 => ?_)
        · have h := h.1 c9
          refine ab_iload_n (i := 2) d_M_site_61 rfl rfl ?_
          refine ab_iconst (v := 1) d_M_site_62 rfl ?_
          refine ab_icmp_ne (tgt := 80) d_M_site_63 (by decide) (fun c10 => ?_) (fun c10 => ?_)
          · have h := h.1 c10
            refine ab_aload_n (i := 0) d_M_site_80 rfl rfl ?_
            refine ab_getR (ci := 11) (k := 19) (j := mx_piece) d_M_site_81 v_1387 rfl (by decide) (by decide) rfl r_mx_19 ?_
            refine ab_iload_n (i := 1) d_M_site_84 rfl rfl ?_
            have g11 := h.1; have h := h.2
            refine ab_iald d_M_site_85 rfl rfl g11 ?_
            exact h
          · have h := h.2 c10
            refine ab_iload (i := 4) d_M_site_66 rfl ?_
            refine ab_iconst (v := 1) d_M_site_68 rfl ?_
            refine ab_icmp_ne (tgt := 76) d_M_site_69 (by decide) (fun c12 => ?_) (fun c12 => ?_)
            · have h := h.1 c12
              refine ab_iconst (v := 0) d_M_site_76 rfl ?_
              refine ab_goto (tgt := 86) d_M_site_77 (by decide) ?_
              exact h
            · have h := h.2 c12
              refine ab_iconst (v := 1) d_M_site_72 rfl ?_
              refine ab_goto (tgt := 86) d_M_site_73 (by decide) ?_
              exact h
        · have h := h.2 c9
          refine ab_iload (i := 4) d_M_site_56 rfl ?_
          refine ab_goto (tgt := 86) d_M_site_58 (by decide) ?_
          exact h
      · have h := h.2 c5
        refine ab_aload_n (i := 0) d_M_site_33 rfl rfl ?_
        refine ab_iload_n (i := 1) d_M_site_34 rfl rfl ?_
        obtain ⟨r13, I14, hC, h⟩ := h
        refine ab_callV (me2 := mt_M_aloneOf) (b := mx) (as := [.int v1]) (st := []) (rv := (some (.int r13))) (M2 := (I14, L, ab_RR, n, nc, ns)) d_M_site_35 ce_M_aloneOf v_1787 v_1789 v_111 (by decide) rfl (Nat.le_of_ble_eq_true rfl) hC (Nat.le_refl _) (Nat.le_refl _) hc hs (fun j h9 => by cases h9) (fun _ _ => rfl) ?_
        show ab_E w (d + 1) mt_M_site 38 [.ref mx, .int v1, .int v2, .null, .null] [.int r13] (I14, L, ab_RR, n, nc, ns) res
        exact ab_iret (ty := .int) d_M_site_38 rfl rfl h
    · have h := h.2 c4
      exact h
theorem q_M_site_22 {w : ab_Wd} {d n nc ns : Nat} {I : Nat → Nat → Int32} {L : Nat → Nat → Int64} {res : ab_Re} (v1 : Int32) (v2 : Int32) (hc : nc ≤ res.2.2.2.2.2.1) (hs : ns ≤ res.2.2.2.2.2.2)
    (h : ∃ (r1 : Int32) (I2 : Nat → Nat → Int32), ab_C w d mt_M_fail [.ref mx, .int 1] (I, L, ab_RR, n, nc, ns) (.inl (some (.int r1)), (I2, L, ab_RR, n, nc, ns)) ∧ res = (.inl (some (.int r1)), (I2, L, ab_RR, n, nc, ns))) : ab_E w (d + 1) mt_M_site 22 [.ref mx, .int v1, .int v2, .null, .null] [] (I, L, ab_RR, n, nc, ns) res := by
  refine ab_aload_n (i := 0) d_M_site_22 rfl rfl ?_
  refine ab_iconst (v := 1) d_M_site_23 rfl ?_
  obtain ⟨r1, I2, hC, h⟩ := h
  refine ab_callV (me2 := mt_M_fail) (b := mx) (as := [.int 1]) (st := []) (rv := (some (.int r1))) (M2 := (I2, L, ab_RR, n, nc, ns)) d_M_site_24 ce_M_fail v_1562 v_1564 v_66 (by decide) rfl (Nat.le_of_ble_eq_true rfl) hC (Nat.le_refl _) (Nat.le_refl _) hc hs (fun j h9 => by cases h9) (fun _ _ => rfl) ?_
  show ab_E w (d + 1) mt_M_site 27 [.ref mx, .int v1, .int v2, .null, .null] [.int r1] (I2, L, ab_RR, n, nc, ns) res
  exact ab_iret (ty := .int) d_M_site_27 rfl rfl h
theorem q_M_site_86 {w : ab_Wd} {d n nc ns : Nat} {I : Nat → Nat → Int32} {L : Nat → Nat → Int64} {res : ab_Re} (v1 : Int32) (v2 : Int32) (v3 : Int32) (v4 : Int32) (s0 : Int32) (hc : nc ≤ res.2.2.2.2.2.1) (hs : ns ≤ res.2.2.2.2.2.2)
    (h : res = (.inl (some (.int s0)), (I, L, ab_RR, n, nc, ns))) : ab_E w (d + 1) mt_M_site 86 [.ref mx, .int v1, .int v2, .int v3, .int v4] [.int s0] (I, L, ab_RR, n, nc, ns) res := by
  exact ab_iret (ty := .int) d_M_site_86 rfl rfl h
theorem d_M_way_0 : decode (ab_bc mt_M_way) 0 = .ok (.aload_n 0, 1) := by decide +kernel
theorem d_M_way_1 : decode (ab_bc mt_M_way) 1 = .ok (.iconst 0, 1) := by decide +kernel
theorem d_M_way_2 : decode (ab_bc mt_M_way) 2 = .ok (.putfield 108, 3) := by decide +kernel
theorem d_M_way_5 : decode (ab_bc mt_M_way) 5 = .ok (.aload_n 0, 1) := by decide +kernel
theorem d_M_way_6 : decode (ab_bc mt_M_way) 6 = .ok (.iload_n 1, 1) := by decide +kernel
theorem d_M_way_7 : decode (ab_bc mt_M_way) 7 = .ok (.invokevirtual 357, 3) := by decide +kernel
theorem d_M_way_10 : decode (ab_bc mt_M_way) 10 = .ok (.ifCond .eq 20, 3) := by decide +kernel
theorem d_M_way_13 : decode (ab_bc mt_M_way) 13 = .ok (.aload_n 0, 1) := by decide +kernel
theorem d_M_way_14 : decode (ab_bc mt_M_way) 14 = .ok (.iload_n 2, 1) := by decide +kernel
theorem d_M_way_15 : decode (ab_bc mt_M_way) 15 = .ok (.invokevirtual 357, 3) := by decide +kernel
theorem d_M_way_18 : decode (ab_bc mt_M_way) 18 = .ok (.ifCond .eq 12, 3) := by decide +kernel
theorem d_M_way_21 : decode (ab_bc mt_M_way) 21 = .ok (.iload_n 3, 1) := by decide +kernel
theorem d_M_way_22 : decode (ab_bc mt_M_way) 22 = .ok (.iconst 0, 1) := by decide +kernel
theorem d_M_way_23 : decode (ab_bc mt_M_way) 23 = .ok (.iconst 4, 1) := by decide +kernel
theorem d_M_way_24 : decode (ab_bc mt_M_way) 24 = .ok (.invokestatic 344, 3) := by decide +kernel
theorem d_M_way_27 : decode (ab_bc mt_M_way) 27 = .ok (.ifCond .ne 9, 3) := by decide +kernel
theorem d_M_way_30 : decode (ab_bc mt_M_way) 30 = .ok (.aload_n 0, 1) := by decide +kernel
theorem d_M_way_31 : decode (ab_bc mt_M_way) 31 = .ok (.iconst 1, 1) := by decide +kernel
theorem d_M_way_32 : decode (ab_bc mt_M_way) 32 = .ok (.invokevirtual 202, 3) := by decide +kernel
theorem d_M_way_35 : decode (ab_bc mt_M_way) 35 = .ok (.ireturn, 1) := by decide +kernel
theorem d_M_way_36 : decode (ab_bc mt_M_way) 36 = .ok (.iload_n 3, 1) := by decide +kernel
theorem d_M_way_37 : decode (ab_bc mt_M_way) 37 = .ok (.iconst 2, 1) := by decide +kernel
theorem d_M_way_38 : decode (ab_bc mt_M_way) 38 = .ok (.if_icmp .le 24, 3) := by decide +kernel
theorem d_M_way_41 : decode (ab_bc mt_M_way) 41 = .ok (.iload_n 3, 1) := by decide +kernel
theorem d_M_way_42 : decode (ab_bc mt_M_way) 42 = .ok (.iconst 3, 1) := by decide +kernel
theorem d_M_way_43 : decode (ab_bc mt_M_way) 43 = .ok (.if_icmp .ne 12, 3) := by decide +kernel
theorem d_M_way_46 : decode (ab_bc mt_M_way) 46 = .ok (.aload_n 0, 1) := by decide +kernel
theorem d_M_way_47 : decode (ab_bc mt_M_way) 47 = .ok (.iload_n 1, 1) := by decide +kernel
theorem d_M_way_48 : decode (ab_bc mt_M_way) 48 = .ok (.iload_n 2, 1) := by decide +kernel
theorem d_M_way_49 : decode (ab_bc mt_M_way) 49 = .ok (.invokevirtual 363, 3) := by decide +kernel
theorem d_M_way_52 : decode (ab_bc mt_M_way) 52 = .ok (.goto 9, 3) := by decide +kernel
theorem d_M_way_55 : decode (ab_bc mt_M_way) 55 = .ok (.aload_n 0, 1) := by decide +kernel
theorem d_M_way_56 : decode (ab_bc mt_M_way) 56 = .ok (.iload_n 1, 1) := by decide +kernel
theorem d_M_way_57 : decode (ab_bc mt_M_way) 57 = .ok (.iload_n 2, 1) := by decide +kernel
theorem d_M_way_58 : decode (ab_bc mt_M_way) 58 = .ok (.invokevirtual 366, 3) := by decide +kernel
theorem d_M_way_61 : decode (ab_bc mt_M_way) 61 = .ok (.ireturn, 1) := by decide +kernel
theorem d_M_way_62 : decode (ab_bc mt_M_way) 62 = .ok (.aload_n 0, 1) := by decide +kernel
theorem d_M_way_63 : decode (ab_bc mt_M_way) 63 = .ok (.aload_n 0, 1) := by decide +kernel
theorem d_M_way_64 : decode (ab_bc mt_M_way) 64 = .ok (.invokevirtual 251, 3) := by decide +kernel
theorem d_M_way_67 : decode (ab_bc mt_M_way) 67 = .ok (.iload_n 1, 1) := by decide +kernel
theorem d_M_way_68 : decode (ab_bc mt_M_way) 68 = .ok (.iload_n 2, 1) := by decide +kernel
theorem d_M_way_69 : decode (ab_bc mt_M_way) 69 = .ok (.invokevirtual 275, 3) := by decide +kernel
theorem d_M_way_72 : decode (ab_bc mt_M_way) 72 = .ok (.istore 4, 2) := by decide +kernel
theorem d_M_way_74 : decode (ab_bc mt_M_way) 74 = .ok (.iload 4, 2) := by decide +kernel
theorem d_M_way_76 : decode (ab_bc mt_M_way) 76 = .ok (.iconst (-1), 1) := by decide +kernel
theorem d_M_way_77 : decode (ab_bc mt_M_way) 77 = .ok (.if_icmp .ne 5, 3) := by decide +kernel
theorem d_M_way_80 : decode (ab_bc mt_M_way) 80 = .ok (.iconst (-1), 1) := by decide +kernel
theorem d_M_way_81 : decode (ab_bc mt_M_way) 81 = .ok (.ireturn, 1) := by decide +kernel
theorem d_M_way_82 : decode (ab_bc mt_M_way) 82 = .ok (.iload_n 3, 1) := by decide +kernel
theorem d_M_way_83 : decode (ab_bc mt_M_way) 83 = .ok (.iconst 2, 1) := by decide +kernel
theorem d_M_way_84 : decode (ab_bc mt_M_way) 84 = .ok (.if_icmp .ne 8, 3) := by decide +kernel
theorem d_M_way_87 : decode (ab_bc mt_M_way) 87 = .ok (.iload 4, 2) := by decide +kernel
theorem d_M_way_89 : decode (ab_bc mt_M_way) 89 = .ok (.goto 32, 3) := by decide +kernel
theorem d_M_way_92 : decode (ab_bc mt_M_way) 92 = .ok (.iload_n 3, 1) := by decide +kernel
theorem d_M_way_93 : decode (ab_bc mt_M_way) 93 = .ok (.iconst 1, 1) := by decide +kernel
theorem d_M_way_94 : decode (ab_bc mt_M_way) 94 = .ok (.if_icmp .ne 10, 3) := by decide +kernel
theorem d_M_way_97 : decode (ab_bc mt_M_way) 97 = .ok (.aload_n 0, 1) := by decide +kernel
theorem d_M_way_98 : decode (ab_bc mt_M_way) 98 = .ok (.invokevirtual 291, 3) := by decide +kernel
theorem d_M_way_101 : decode (ab_bc mt_M_way) 101 = .ok (.goto 20, 3) := by decide +kernel
theorem d_M_way_104 : decode (ab_bc mt_M_way) 104 = .ok (.iload 4, 2) := by decide +kernel
theorem d_M_way_106 : decode (ab_bc mt_M_way) 106 = .ok (.ifCond .ne 7, 3) := by decide +kernel
theorem d_M_way_109 : decode (ab_bc mt_M_way) 109 = .ok (.iconst 0, 1) := by decide +kernel
theorem d_M_way_110 : decode (ab_bc mt_M_way) 110 = .ok (.goto 11, 3) := by decide +kernel
theorem d_M_way_113 : decode (ab_bc mt_M_way) 113 = .ok (.aload_n 0, 1) := by decide +kernel
theorem d_M_way_114 : decode (ab_bc mt_M_way) 114 = .ok (.aload_n 0, 1) := by decide +kernel
theorem d_M_way_115 : decode (ab_bc mt_M_way) 115 = .ok (.invokevirtual 285, 3) := by decide +kernel
theorem d_M_way_118 : decode (ab_bc mt_M_way) 118 = .ok (.invokevirtual 222, 3) := by decide +kernel
theorem d_M_way_121 : decode (ab_bc mt_M_way) 121 = .ok (.ireturn, 1) := by decide +kernel
-- CableKeeperModel.way(III)I over mx
theorem q_M_way_0 {w : ab_Wd} {d n nc ns : Nat} {I : Nat → Nat → Int32} {L : Nat → Nat → Int64} {res : ab_Re} (v1 : Int32) (v2 : Int32) (v3 : Int32) (hc : nc ≤ res.2.2.2.2.2.1) (hs : ns ≤ res.2.2.2.2.2.2)
    (h : ∃ (r1 : Int32), ab_C w d mt_M_isSite [.ref mx, .int v1] ((ab_up I mx 1 0), L, ab_RR, n, nc, ns) (.inl (some (.int r1)), ((ab_up I mx 1 0), L, ab_RR, n, nc, ns)) ∧ ((r1 = 0 → (ab_E w (d + 1) mt_M_way 30 [.ref mx, .int v1, .int v2, .int v3, .null] [] ((ab_up I mx 1 0), L, ab_RR, n, nc, ns) res)) ∧ (¬ r1 = 0 → (∃ (r3 : Int32), ab_C w d mt_M_isSite [.ref mx, .int v2] ((ab_up I mx 1 0), L, ab_RR, n, nc, ns) (.inl (some (.int r3)), ((ab_up I mx 1 0), L, ab_RR, n, nc, ns)) ∧ ((r3 = 0 → (ab_E w (d + 1) mt_M_way 30 [.ref mx, .int v1, .int v2, .int v3, .null] [] ((ab_up I mx 1 0), L, ab_RR, n, nc, ns) res)) ∧ (¬ r3 = 0 → (∃ (r5 : Int32), ab_C w d mt_M_isIn [.int v3, .int 0, .int 4] ((ab_up I mx 1 0), L, ab_RR, n, nc, ns) (.inl (some (.int r5)), ((ab_up I mx 1 0), L, ab_RR, n, nc, ns)) ∧ ((¬ r5 = 0 → ((v3 ≤ 2 → (∃ (r8 : Int32) (I9 : Nat → Nat → Int32), ab_C w d mt_M_netNow [.ref mx] ((ab_up I mx 1 0), L, ab_RR, n, nc, ns) (.inl (some (.int r8)), (I9, L, ab_RR, n, nc, ns)) ∧ ∃ (r10 : Int32) (I11 : Nat → Nat → Int32), ab_C w d mt_M_tellWay [.ref mx, .int r8, .int v1, .int v2] (I9, L, ab_RR, n, nc, ns) (.inl (some (.int r10)), (I11, L, ab_RR, n, nc, ns)) ∧ ((¬ r10 = (-1) → ((¬ v3 = 2 → ((¬ v3 = 1 → ((¬ r10 = 0 → (∃ (r16 : Int32), ab_C w d mt_M_dearestOnWay [.ref mx] (I11, L, ab_RR, n, nc, ns) (.inl (some (.int r16)), (I11, L, ab_RR, n, nc, ns)) ∧ ∃ (r17 : Int32), ab_C w d mt_M_priceOf [.ref mx, .int r16] (I11, L, ab_RR, n, nc, ns) (.inl (some (.int r17)), (I11, L, ab_RR, n, nc, ns)) ∧ ab_E w (d + 1) mt_M_way 121 [.ref mx, .int v1, .int v2, .int v3, .int r10] [.int r17] (I11, L, ab_RR, n, nc, ns) res)) ∧ (r10 = 0 → (ab_E w (d + 1) mt_M_way 121 [.ref mx, .int v1, .int v2, .int v3, .int r10] [.int 0] (I11, L, ab_RR, n, nc, ns) res)))) ∧ (v3 = 1 → (∃ (r18 : Int32), ab_C w d mt_M_pricesOnWay [.ref mx] (I11, L, ab_RR, n, nc, ns) (.inl (some (.int r18)), (I11, L, ab_RR, n, nc, ns)) ∧ ab_E w (d + 1) mt_M_way 121 [.ref mx, .int v1, .int v2, .int v3, .int r10] [.int r18] (I11, L, ab_RR, n, nc, ns) res)))) ∧ (v3 = 2 → (ab_E w (d + 1) mt_M_way 121 [.ref mx, .int v1, .int v2, .int v3, .int r10] [.int r10] (I11, L, ab_RR, n, nc, ns) res)))) ∧ (r10 = (-1) → (res = (.inl (some (.int (-1))), (I11, L, ab_RR, n, nc, ns))))))) ∧ (¬ v3 ≤ 2 → ((¬ v3 = 3 → (∃ (r20 : Int32) (I21 : Nat → Nat → Int32), ab_C w d mt_M_apartOf [.ref mx, .int v1, .int v2] ((ab_up I mx 1 0), L, ab_RR, n, nc, ns) (.inl (some (.int r20)), (I21, L, ab_RR, n, nc, ns)) ∧ ab_E w (d + 1) mt_M_way 61 [.ref mx, .int v1, .int v2, .int v3, .null] [.int r20] (I21, L, ab_RR, n, nc, ns) res)) ∧ (v3 = 3 → (∃ (r22 : Int32) (I23 : Nat → Nat → Int32), ab_C w d mt_M_shortOf [.ref mx, .int v1, .int v2] ((ab_up I mx 1 0), L, ab_RR, n, nc, ns) (.inl (some (.int r22)), (I23, L, ab_RR, n, nc, ns)) ∧ ab_E w (d + 1) mt_M_way 61 [.ref mx, .int v1, .int v2, .int v3, .null] [.int r22] (I23, L, ab_RR, n, nc, ns) res)))))) ∧ (r5 = 0 → (ab_E w (d + 1) mt_M_way 30 [.ref mx, .int v1, .int v2, .int v3, .null] [] ((ab_up I mx 1 0), L, ab_RR, n, nc, ns) res)))))))))) : ab_E w (d + 1) mt_M_way 0 [.ref mx, .int v1, .int v2, .int v3, .null] [] (I, L, ab_RR, n, nc, ns) res := by
  refine ab_aload_n (i := 0) d_M_way_0 rfl rfl ?_
  refine ab_iconst (v := 0) d_M_way_1 rfl ?_
  refine ab_putI (ci := 11) (k := 1) d_M_way_2 v_1369 rfl (by decide) (by decide) rfl (Or.inl rfl) rfl rfl ?_
  refine ab_aload_n (i := 0) d_M_way_5 rfl rfl ?_
  refine ab_iload_n (i := 1) d_M_way_6 rfl rfl ?_
  obtain ⟨r1, hC, h⟩ := h
  refine ab_callV (me2 := mt_M_isSite) (b := mx) (as := [.int v1]) (st := []) (rv := (some (.int r1))) (M2 := ((ab_up I mx 1 0), L, ab_RR, n, nc, ns)) d_M_way_7 ce_M_isSite v_1783 v_1785 v_110 (by decide) rfl (Nat.le_of_ble_eq_true rfl) hC (Nat.le_refl _) (Nat.le_refl _) hc hs (fun j h9 => by cases h9) (fun _ _ => rfl) ?_
  show ab_E w (d + 1) mt_M_way 10 [.ref mx, .int v1, .int v2, .int v3, .null] [.int r1] ((ab_up I mx 1 0), L, ab_RR, n, nc, ns) res
  refine ab_if_eq (tgt := 30) d_M_way_10 (by decide) (fun c2 => ?_) (fun c2 => ?_)
  · have h := h.1 c2
    exact h
  · have h := h.2 c2
    refine ab_aload_n (i := 0) d_M_way_13 rfl rfl ?_
    refine ab_iload_n (i := 2) d_M_way_14 rfl rfl ?_
    obtain ⟨r3, hC, h⟩ := h
    refine ab_callV (me2 := mt_M_isSite) (b := mx) (as := [.int v2]) (st := []) (rv := (some (.int r3))) (M2 := ((ab_up I mx 1 0), L, ab_RR, n, nc, ns)) d_M_way_15 ce_M_isSite v_1783 v_1785 v_110 (by decide) rfl (Nat.le_of_ble_eq_true rfl) hC (Nat.le_refl _) (Nat.le_refl _) hc hs (fun j h9 => by cases h9) (fun _ _ => rfl) ?_
    show ab_E w (d + 1) mt_M_way 18 [.ref mx, .int v1, .int v2, .int v3, .null] [.int r3] ((ab_up I mx 1 0), L, ab_RR, n, nc, ns) res
    refine ab_if_eq (tgt := 30) d_M_way_18 (by decide) (fun c4 => ?_) (fun c4 => ?_)
    · have h := h.1 c4
      exact h
    · have h := h.2 c4
      refine ab_iload_n (i := 3) d_M_way_21 rfl rfl ?_
      refine ab_iconst (v := 0) d_M_way_22 rfl ?_
      refine ab_iconst (v := 4) d_M_way_23 rfl ?_
      obtain ⟨r5, hC, h⟩ := h
      refine ab_callS (me2 := mt_M_isIn) (as := [.int v3, .int 0, .int 4]) (st := []) (rv := (some (.int r5))) (M2 := ((ab_up I mx 1 0), L, ab_RR, n, nc, ns)) d_M_way_24 ce_M_isIn ⟨v_1753, Or.inl v_1752⟩ (Nat.le_of_ble_eq_true rfl) hC (Nat.le_refl _) (Nat.le_refl _) hc hs (fun j h9 => by cases h9) (fun _ _ => rfl) ?_
      show ab_E w (d + 1) mt_M_way 27 [.ref mx, .int v1, .int v2, .int v3, .null] [.int r5] ((ab_up I mx 1 0), L, ab_RR, n, nc, ns) res
      refine ab_if_ne (tgt := 36) d_M_way_27 (by decide) (fun c6 => ?_) (fun c6 => ?_)
      · have h := h.1 c6
        refine ab_iload_n (i := 3) d_M_way_36 rfl rfl ?_
        refine ab_iconst (v := 2) d_M_way_37 rfl ?_
        refine ab_icmp_le (tgt := 62) d_M_way_38 (by decide) (fun c7 => ?_) (fun c7 => ?_)
        · have h := h.1 c7
          refine ab_aload_n (i := 0) d_M_way_62 rfl rfl ?_
          refine ab_aload_n (i := 0) d_M_way_63 rfl rfl ?_
          obtain ⟨r8, I9, hC, h⟩ := h
          refine ab_callV (me2 := mt_M_netNow) (b := mx) (as := []) (st := [.ref mx]) (rv := (some (.int r8))) (M2 := (I9, L, ab_RR, n, nc, ns)) d_M_way_64 ce_M_netNow v_1639 v_1641 v_80 (by decide) rfl (Nat.le_of_ble_eq_true rfl) hC (Nat.le_refl _) (Nat.le_refl _) hc hs (fun j h9 => by cases h9) (fun _ _ => rfl) ?_
          show ab_E w (d + 1) mt_M_way 67 [.ref mx, .int v1, .int v2, .int v3, .null] [.int r8, .ref mx] (I9, L, ab_RR, n, nc, ns) res
          refine ab_iload_n (i := 1) d_M_way_67 rfl rfl ?_
          refine ab_iload_n (i := 2) d_M_way_68 rfl rfl ?_
          obtain ⟨r10, I11, hC, h⟩ := h
          refine ab_callV (me2 := mt_M_tellWay) (b := mx) (as := [.int r8, .int v1, .int v2]) (st := []) (rv := (some (.int r10))) (M2 := (I11, L, ab_RR, n, nc, ns)) d_M_way_69 ce_M_tellWay v_1687 v_1689 v_91 (by decide) rfl (Nat.le_of_ble_eq_true rfl) hC (Nat.le_refl _) (Nat.le_refl _) hc hs (fun j h9 => by cases h9) (fun _ _ => rfl) ?_
          show ab_E w (d + 1) mt_M_way 72 [.ref mx, .int v1, .int v2, .int v3, .null] [.int r10] (I11, L, ab_RR, n, nc, ns) res
          refine ab_istore (i := 4) d_M_way_72 (by decide) (Or.inr rfl) ?_
          refine ab_iload (i := 4) d_M_way_74 rfl ?_
          refine ab_iconst (v := (-1)) d_M_way_76 rfl ?_
          refine ab_icmp_ne (tgt := 82) d_M_way_77 (by decide) (fun c12 => ?_) (fun c12 => ?_)
          · have h := h.1 c12
            refine ab_iload_n (i := 3) d_M_way_82 rfl rfl ?_
            refine ab_iconst (v := 2) d_M_way_83 rfl ?_
            refine ab_icmp_ne (tgt := 92) d_M_way_84 (by decide) (fun c13 => ?_) (fun c13 => ?_)
            · have h := h.1 c13
              refine ab_iload_n (i := 3) d_M_way_92 rfl rfl ?_
              refine ab_iconst (v := 1) d_M_way_93 rfl ?_
              refine ab_icmp_ne (tgt := 104) d_M_way_94 (by decide) (fun c14 => ?_) (fun c14 => ?_)
              · have h := h.1 c14
                refine ab_iload (i := 4) d_M_way_104 rfl ?_
                refine ab_if_ne (tgt := 113) d_M_way_106 (by decide) (fun c15 => ?_) (fun c15 => ?_)
                · have h := h.1 c15
                  refine ab_aload_n (i := 0) d_M_way_113 rfl rfl ?_
                  refine ab_aload_n (i := 0) d_M_way_114 rfl rfl ?_
                  obtain ⟨r16, hC, h⟩ := h
                  refine ab_callV (me2 := mt_M_dearestOnWay) (b := mx) (as := []) (st := [.ref mx]) (rv := (some (.int r16))) (M2 := (I11, L, ab_RR, n, nc, ns)) d_M_way_115 ce_M_dearestOnWay v_1695 v_1697 v_93 (by decide) rfl (Nat.le_of_ble_eq_true rfl) hC (Nat.le_refl _) (Nat.le_refl _) hc hs (fun j h9 => by cases h9) (fun _ _ => rfl) ?_
                  show ab_E w (d + 1) mt_M_way 118 [.ref mx, .int v1, .int v2, .int v3, .int r10] [.int r16, .ref mx] (I11, L, ab_RR, n, nc, ns) res
                  obtain ⟨r17, hC, h⟩ := h
                  refine ab_callV (me2 := mt_M_priceOf) (b := mx) (as := [.int r16]) (st := []) (rv := (some (.int r17))) (M2 := (I11, L, ab_RR, n, nc, ns)) d_M_way_118 ce_M_priceOf v_1654 v_1656 v_83 (by decide) rfl (Nat.le_of_ble_eq_true rfl) hC (Nat.le_refl _) (Nat.le_refl _) hc hs (fun j h9 => by cases h9) (fun _ _ => rfl) ?_
                  show ab_E w (d + 1) mt_M_way 121 [.ref mx, .int v1, .int v2, .int v3, .int r10] [.int r17] (I11, L, ab_RR, n, nc, ns) res
                  exact h
                · have h := h.2 c15
                  refine ab_iconst (v := 0) d_M_way_109 rfl ?_
                  refine ab_goto (tgt := 121) d_M_way_110 (by decide) ?_
                  exact h
              · have h := h.2 c14
                refine ab_aload_n (i := 0) d_M_way_97 rfl rfl ?_
                obtain ⟨r18, hC, h⟩ := h
                refine ab_callV (me2 := mt_M_pricesOnWay) (b := mx) (as := []) (st := []) (rv := (some (.int r18))) (M2 := (I11, L, ab_RR, n, nc, ns)) d_M_way_98 ce_M_pricesOnWay v_1711 v_1713 v_97 (by decide) rfl (Nat.le_of_ble_eq_true rfl) hC (Nat.le_refl _) (Nat.le_refl _) hc hs (fun j h9 => by cases h9) (fun _ _ => rfl) ?_
                show ab_E w (d + 1) mt_M_way 101 [.ref mx, .int v1, .int v2, .int v3, .int r10] [.int r18] (I11, L, ab_RR, n, nc, ns) res
                refine ab_goto (tgt := 121) d_M_way_101 (by decide) ?_
                exact h
            · have h := h.2 c13
              refine ab_iload (i := 4) d_M_way_87 rfl ?_
              refine ab_goto (tgt := 121) d_M_way_89 (by decide) ?_
              exact h
          · have h := h.2 c12
            refine ab_iconst (v := (-1)) d_M_way_80 rfl ?_
            exact ab_iret (ty := .int) d_M_way_81 rfl rfl h
        · have h := h.2 c7
          refine ab_iload_n (i := 3) d_M_way_41 rfl rfl ?_
          refine ab_iconst (v := 3) d_M_way_42 rfl ?_
          refine ab_icmp_ne (tgt := 55) d_M_way_43 (by decide) (fun c19 => ?_) (fun c19 => ?_)
          · have h := h.1 c19
            refine ab_aload_n (i := 0) d_M_way_55 rfl rfl ?_
            refine ab_iload_n (i := 1) d_M_way_56 rfl rfl ?_
            refine ab_iload_n (i := 2) d_M_way_57 rfl rfl ?_
            obtain ⟨r20, I21, hC, h⟩ := h
            refine ab_callV (me2 := mt_M_apartOf) (b := mx) (as := [.int v1, .int v2]) (st := []) (rv := (some (.int r20))) (M2 := (I21, L, ab_RR, n, nc, ns)) d_M_way_58 ce_M_apartOf v_1799 v_1801 v_113 (by decide) rfl (Nat.le_of_ble_eq_true rfl) hC (Nat.le_refl _) (Nat.le_refl _) hc hs (fun j h9 => by cases h9) (fun _ _ => rfl) ?_
            show ab_E w (d + 1) mt_M_way 61 [.ref mx, .int v1, .int v2, .int v3, .null] [.int r20] (I21, L, ab_RR, n, nc, ns) res
            exact h
          · have h := h.2 c19
            refine ab_aload_n (i := 0) d_M_way_46 rfl rfl ?_
            refine ab_iload_n (i := 1) d_M_way_47 rfl rfl ?_
            refine ab_iload_n (i := 2) d_M_way_48 rfl rfl ?_
            obtain ⟨r22, I23, hC, h⟩ := h
            refine ab_callV (me2 := mt_M_shortOf) (b := mx) (as := [.int v1, .int v2]) (st := []) (rv := (some (.int r22))) (M2 := (I23, L, ab_RR, n, nc, ns)) d_M_way_49 ce_M_shortOf v_1795 v_1797 v_112 (by decide) rfl (Nat.le_of_ble_eq_true rfl) hC (Nat.le_refl _) (Nat.le_refl _) hc hs (fun j h9 => by cases h9) (fun _ _ => rfl) ?_
            show ab_E w (d + 1) mt_M_way 52 [.ref mx, .int v1, .int v2, .int v3, .null] [.int r22] (I23, L, ab_RR, n, nc, ns) res
            refine ab_goto (tgt := 61) d_M_way_52 (by decide) ?_
            exact h
      · have h := h.2 c6
        exact h
theorem q_M_way_30 {w : ab_Wd} {d n nc ns : Nat} {I : Nat → Nat → Int32} {L : Nat → Nat → Int64} {res : ab_Re} (v1 : Int32) (v2 : Int32) (v3 : Int32) (hc : nc ≤ res.2.2.2.2.2.1) (hs : ns ≤ res.2.2.2.2.2.2)
    (h : ∃ (r1 : Int32) (I2 : Nat → Nat → Int32), ab_C w d mt_M_fail [.ref mx, .int 1] (I, L, ab_RR, n, nc, ns) (.inl (some (.int r1)), (I2, L, ab_RR, n, nc, ns)) ∧ res = (.inl (some (.int r1)), (I2, L, ab_RR, n, nc, ns))) : ab_E w (d + 1) mt_M_way 30 [.ref mx, .int v1, .int v2, .int v3, .null] [] (I, L, ab_RR, n, nc, ns) res := by
  refine ab_aload_n (i := 0) d_M_way_30 rfl rfl ?_
  refine ab_iconst (v := 1) d_M_way_31 rfl ?_
  obtain ⟨r1, I2, hC, h⟩ := h
  refine ab_callV (me2 := mt_M_fail) (b := mx) (as := [.int 1]) (st := []) (rv := (some (.int r1))) (M2 := (I2, L, ab_RR, n, nc, ns)) d_M_way_32 ce_M_fail v_1562 v_1564 v_66 (by decide) rfl (Nat.le_of_ble_eq_true rfl) hC (Nat.le_refl _) (Nat.le_refl _) hc hs (fun j h9 => by cases h9) (fun _ _ => rfl) ?_
  show ab_E w (d + 1) mt_M_way 35 [.ref mx, .int v1, .int v2, .int v3, .null] [.int r1] (I2, L, ab_RR, n, nc, ns) res
  exact ab_iret (ty := .int) d_M_way_35 rfl rfl h
theorem q_M_way_61 {w : ab_Wd} {d n nc ns : Nat} {I : Nat → Nat → Int32} {L : Nat → Nat → Int64} {res : ab_Re} (v1 : Int32) (v2 : Int32) (v3 : Int32) (s0 : Int32) (hc : nc ≤ res.2.2.2.2.2.1) (hs : ns ≤ res.2.2.2.2.2.2)
    (h : res = (.inl (some (.int s0)), (I, L, ab_RR, n, nc, ns))) : ab_E w (d + 1) mt_M_way 61 [.ref mx, .int v1, .int v2, .int v3, .null] [.int s0] (I, L, ab_RR, n, nc, ns) res := by
  exact ab_iret (ty := .int) d_M_way_61 rfl rfl h
theorem q_M_way_121 {w : ab_Wd} {d n nc ns : Nat} {I : Nat → Nat → Int32} {L : Nat → Nat → Int64} {res : ab_Re} (v1 : Int32) (v2 : Int32) (v3 : Int32) (v4 : Int32) (s0 : Int32) (hc : nc ≤ res.2.2.2.2.2.1) (hs : ns ≤ res.2.2.2.2.2.2)
    (h : res = (.inl (some (.int s0)), (I, L, ab_RR, n, nc, ns))) : ab_E w (d + 1) mt_M_way 121 [.ref mx, .int v1, .int v2, .int v3, .int v4] [.int s0] (I, L, ab_RR, n, nc, ns) res := by
  exact ab_iret (ty := .int) d_M_way_121 rfl rfl h
theorem d_M_share_0 : decode (ab_bc mt_M_share) 0 = .ok (.aload_n 0, 1) := by decide +kernel
theorem d_M_share_1 : decode (ab_bc mt_M_share) 1 = .ok (.iconst 0, 1) := by decide +kernel
theorem d_M_share_2 : decode (ab_bc mt_M_share) 2 = .ok (.putfield 108, 3) := by decide +kernel
theorem d_M_share_5 : decode (ab_bc mt_M_share) 5 = .ok (.aload_n 0, 1) := by decide +kernel
theorem d_M_share_6 : decode (ab_bc mt_M_share) 6 = .ok (.iload_n 1, 1) := by decide +kernel
theorem d_M_share_7 : decode (ab_bc mt_M_share) 7 = .ok (.invokevirtual 357, 3) := by decide +kernel
theorem d_M_share_10 : decode (ab_bc mt_M_share) 10 = .ok (.ifCond .ne 9, 3) := by decide +kernel
theorem d_M_share_13 : decode (ab_bc mt_M_share) 13 = .ok (.aload_n 0, 1) := by decide +kernel
theorem d_M_share_14 : decode (ab_bc mt_M_share) 14 = .ok (.iconst 1, 1) := by decide +kernel
theorem d_M_share_15 : decode (ab_bc mt_M_share) 15 = .ok (.invokevirtual 202, 3) := by decide +kernel
theorem d_M_share_18 : decode (ab_bc mt_M_share) 18 = .ok (.ireturn, 1) := by decide +kernel
theorem d_M_share_19 : decode (ab_bc mt_M_share) 19 = .ok (.aload_n 0, 1) := by decide +kernel
theorem d_M_share_20 : decode (ab_bc mt_M_share) 20 = .ok (.aload_n 0, 1) := by decide +kernel
theorem d_M_share_21 : decode (ab_bc mt_M_share) 21 = .ok (.invokevirtual 251, 3) := by decide +kernel
theorem d_M_share_24 : decode (ab_bc mt_M_share) 24 = .ok (.iload_n 1, 1) := by decide +kernel
theorem d_M_share_25 : decode (ab_bc mt_M_share) 25 = .ok (.iconst 0, 1) := by decide +kernel
theorem d_M_share_26 : decode (ab_bc mt_M_share) 26 = .ok (.invokevirtual 275, 3) := by decide +kernel
theorem d_M_share_29 : decode (ab_bc mt_M_share) 29 = .ok (.istore_n 2, 1) := by decide +kernel
theorem d_M_share_30 : decode (ab_bc mt_M_share) 30 = .ok (.iload_n 2, 1) := by decide +kernel
theorem d_M_share_31 : decode (ab_bc mt_M_share) 31 = .ok (.iconst (-1), 1) := by decide +kernel
theorem d_M_share_32 : decode (ab_bc mt_M_share) 32 = .ok (.if_icmp .ne 7, 3) := by decide +kernel
theorem d_M_share_35 : decode (ab_bc mt_M_share) 35 = .ok (.iconst (-1), 1) := by decide +kernel
theorem d_M_share_36 : decode (ab_bc mt_M_share) 36 = .ok (.goto 21, 3) := by decide +kernel
theorem d_M_share_39 : decode (ab_bc mt_M_share) 39 = .ok (.iload_n 2, 1) := by decide +kernel
theorem d_M_share_40 : decode (ab_bc mt_M_share) 40 = .ok (.ifCond .ne 7, 3) := by decide +kernel
theorem d_M_share_43 : decode (ab_bc mt_M_share) 43 = .ok (.iconst 0, 1) := by decide +kernel
theorem d_M_share_44 : decode (ab_bc mt_M_share) 44 = .ok (.goto 13, 3) := by decide +kernel
theorem d_M_share_47 : decode (ab_bc mt_M_share) 47 = .ok (.aload_n 0, 1) := by decide +kernel
theorem d_M_share_48 : decode (ab_bc mt_M_share) 48 = .ok (.aload_n 0, 1) := by decide +kernel
theorem d_M_share_49 : decode (ab_bc mt_M_share) 49 = .ok (.getfield 46, 3) := by decide +kernel
theorem d_M_share_52 : decode (ab_bc mt_M_share) 52 = .ok (.iconst 0, 1) := by decide +kernel
theorem d_M_share_53 : decode (ab_bc mt_M_share) 53 = .ok (.iaload, 1) := by decide +kernel
theorem d_M_share_54 : decode (ab_bc mt_M_share) 54 = .ok (.invokevirtual 222, 3) := by decide +kernel
theorem d_M_share_57 : decode (ab_bc mt_M_share) 57 = .ok (.ireturn, 1) := by decide +kernel
-- CableKeeperModel.share(I)I over mx
theorem q_M_share_0 {w : ab_Wd} {d n nc ns : Nat} {I : Nat → Nat → Int32} {L : Nat → Nat → Int64} {res : ab_Re} (v1 : Int32) (hc : nc ≤ res.2.2.2.2.2.1) (hs : ns ≤ res.2.2.2.2.2.2)
    (h : ∃ (r1 : Int32), ab_C w d mt_M_isSite [.ref mx, .int v1] ((ab_up I mx 1 0), L, ab_RR, n, nc, ns) (.inl (some (.int r1)), ((ab_up I mx 1 0), L, ab_RR, n, nc, ns)) ∧ ((¬ r1 = 0 → (∃ (r3 : Int32) (I4 : Nat → Nat → Int32), ab_C w d mt_M_netNow [.ref mx] ((ab_up I mx 1 0), L, ab_RR, n, nc, ns) (.inl (some (.int r3)), (I4, L, ab_RR, n, nc, ns)) ∧ ∃ (r5 : Int32) (I6 : Nat → Nat → Int32), ab_C w d mt_M_tellWay [.ref mx, .int r3, .int v1, .int 0] (I4, L, ab_RR, n, nc, ns) (.inl (some (.int r5)), (I6, L, ab_RR, n, nc, ns)) ∧ ((¬ r5 = (-1) → ((¬ r5 = 0 → (∃ (r9 : Int32), ab_C w d mt_M_priceOf [.ref mx, .int (I6 mx_way 0)] (I6, L, ab_RR, n, nc, ns) (.inl (some (.int r9)), (I6, L, ab_RR, n, nc, ns)) ∧ ab_E w (d + 1) mt_M_share 57 [.ref mx, .int v1, .int r5] [.int r9] (I6, L, ab_RR, n, nc, ns) res)) ∧ (r5 = 0 → (ab_E w (d + 1) mt_M_share 57 [.ref mx, .int v1, .int r5] [.int 0] (I6, L, ab_RR, n, nc, ns) res)))) ∧ (r5 = (-1) → (ab_E w (d + 1) mt_M_share 57 [.ref mx, .int v1, .int r5] [.int (-1)] (I6, L, ab_RR, n, nc, ns) res))))) ∧ (r1 = 0 → (∃ (r10 : Int32) (I11 : Nat → Nat → Int32), ab_C w d mt_M_fail [.ref mx, .int 1] ((ab_up I mx 1 0), L, ab_RR, n, nc, ns) (.inl (some (.int r10)), (I11, L, ab_RR, n, nc, ns)) ∧ res = (.inl (some (.int r10)), (I11, L, ab_RR, n, nc, ns)))))) : ab_E w (d + 1) mt_M_share 0 [.ref mx, .int v1, .null] [] (I, L, ab_RR, n, nc, ns) res := by
  refine ab_aload_n (i := 0) d_M_share_0 rfl rfl ?_
  refine ab_iconst (v := 0) d_M_share_1 rfl ?_
  refine ab_putI (ci := 11) (k := 1) d_M_share_2 v_1369 rfl (by decide) (by decide) rfl (Or.inl rfl) rfl rfl ?_
  refine ab_aload_n (i := 0) d_M_share_5 rfl rfl ?_
  refine ab_iload_n (i := 1) d_M_share_6 rfl rfl ?_
  obtain ⟨r1, hC, h⟩ := h
  refine ab_callV (me2 := mt_M_isSite) (b := mx) (as := [.int v1]) (st := []) (rv := (some (.int r1))) (M2 := ((ab_up I mx 1 0), L, ab_RR, n, nc, ns)) d_M_share_7 ce_M_isSite v_1783 v_1785 v_110 (by decide) rfl (Nat.le_of_ble_eq_true rfl) hC (Nat.le_refl _) (Nat.le_refl _) hc hs (fun j h9 => by cases h9) (fun _ _ => rfl) ?_
  show ab_E w (d + 1) mt_M_share 10 [.ref mx, .int v1, .null] [.int r1] ((ab_up I mx 1 0), L, ab_RR, n, nc, ns) res
  refine ab_if_ne (tgt := 19) d_M_share_10 (by decide) (fun c2 => ?_) (fun c2 => ?_)
  · have h := h.1 c2
    refine ab_aload_n (i := 0) d_M_share_19 rfl rfl ?_
    refine ab_aload_n (i := 0) d_M_share_20 rfl rfl ?_
    obtain ⟨r3, I4, hC, h⟩ := h
    refine ab_callV (me2 := mt_M_netNow) (b := mx) (as := []) (st := [.ref mx]) (rv := (some (.int r3))) (M2 := (I4, L, ab_RR, n, nc, ns)) d_M_share_21 ce_M_netNow v_1639 v_1641 v_80 (by decide) rfl (Nat.le_of_ble_eq_true rfl) hC (Nat.le_refl _) (Nat.le_refl _) hc hs (fun j h9 => by cases h9) (fun _ _ => rfl) ?_
    show ab_E w (d + 1) mt_M_share 24 [.ref mx, .int v1, .null] [.int r3, .ref mx] (I4, L, ab_RR, n, nc, ns) res
    refine ab_iload_n (i := 1) d_M_share_24 rfl rfl ?_
    refine ab_iconst (v := 0) d_M_share_25 rfl ?_
    obtain ⟨r5, I6, hC, h⟩ := h
    refine ab_callV (me2 := mt_M_tellWay) (b := mx) (as := [.int r3, .int v1, .int 0]) (st := []) (rv := (some (.int r5))) (M2 := (I6, L, ab_RR, n, nc, ns)) d_M_share_26 ce_M_tellWay v_1687 v_1689 v_91 (by decide) rfl (Nat.le_of_ble_eq_true rfl) hC (Nat.le_refl _) (Nat.le_refl _) hc hs (fun j h9 => by cases h9) (fun _ _ => rfl) ?_
    show ab_E w (d + 1) mt_M_share 29 [.ref mx, .int v1, .null] [.int r5] (I6, L, ab_RR, n, nc, ns) res
    refine ab_istore_n (i := 2) d_M_share_29 rfl (by decide) (Or.inr rfl) ?_
    refine ab_iload_n (i := 2) d_M_share_30 rfl rfl ?_
    refine ab_iconst (v := (-1)) d_M_share_31 rfl ?_
    refine ab_icmp_ne (tgt := 39) d_M_share_32 (by decide) (fun c7 => ?_) (fun c7 => ?_)
    · have h := h.1 c7
      refine ab_iload_n (i := 2) d_M_share_39 rfl rfl ?_
      refine ab_if_ne (tgt := 47) d_M_share_40 (by decide) (fun c8 => ?_) (fun c8 => ?_)
      · have h := h.1 c8
        refine ab_aload_n (i := 0) d_M_share_47 rfl rfl ?_
        refine ab_aload_n (i := 0) d_M_share_48 rfl rfl ?_
        refine ab_getR (ci := 11) (k := 23) (j := mx_way) d_M_share_49 v_1391 rfl (by decide) (by decide) rfl r_mx_23 ?_
        refine ab_iconst (v := 0) d_M_share_52 rfl ?_
        refine ab_iald d_M_share_53 rfl rfl (by unfold vp_in; decide) ?_
        obtain ⟨r9, hC, h⟩ := h
        refine ab_callV (me2 := mt_M_priceOf) (b := mx) (as := [.int (I6 mx_way 0)]) (st := []) (rv := (some (.int r9))) (M2 := (I6, L, ab_RR, n, nc, ns)) d_M_share_54 ce_M_priceOf v_1654 v_1656 v_83 (by decide) rfl (Nat.le_of_ble_eq_true rfl) hC (Nat.le_refl _) (Nat.le_refl _) hc hs (fun j h9 => by cases h9) (fun _ _ => rfl) ?_
        show ab_E w (d + 1) mt_M_share 57 [.ref mx, .int v1, .int r5] [.int r9] (I6, L, ab_RR, n, nc, ns) res
        exact h
      · have h := h.2 c8
        refine ab_iconst (v := 0) d_M_share_43 rfl ?_
        refine ab_goto (tgt := 57) d_M_share_44 (by decide) ?_
        exact h
    · have h := h.2 c7
      refine ab_iconst (v := (-1)) d_M_share_35 rfl ?_
      refine ab_goto (tgt := 57) d_M_share_36 (by decide) ?_
      exact h
  · have h := h.2 c2
    refine ab_aload_n (i := 0) d_M_share_13 rfl rfl ?_
    refine ab_iconst (v := 1) d_M_share_14 rfl ?_
    obtain ⟨r10, I11, hC, h⟩ := h
    refine ab_callV (me2 := mt_M_fail) (b := mx) (as := [.int 1]) (st := []) (rv := (some (.int r10))) (M2 := (I11, L, ab_RR, n, nc, ns)) d_M_share_15 ce_M_fail v_1562 v_1564 v_66 (by decide) rfl (Nat.le_of_ble_eq_true rfl) hC (Nat.le_refl _) (Nat.le_refl _) hc hs (fun j h9 => by cases h9) (fun _ _ => rfl) ?_
    show ab_E w (d + 1) mt_M_share 18 [.ref mx, .int v1, .null] [.int r10] (I11, L, ab_RR, n, nc, ns) res
    exact ab_iret (ty := .int) d_M_share_18 rfl rfl h
theorem q_M_share_57 {w : ab_Wd} {d n nc ns : Nat} {I : Nat → Nat → Int32} {L : Nat → Nat → Int64} {res : ab_Re} (v1 : Int32) (v2 : Int32) (s0 : Int32) (hc : nc ≤ res.2.2.2.2.2.1) (hs : ns ≤ res.2.2.2.2.2.2)
    (h : res = (.inl (some (.int s0)), (I, L, ab_RR, n, nc, ns))) : ab_E w (d + 1) mt_M_share 57 [.ref mx, .int v1, .int v2] [.int s0] (I, L, ab_RR, n, nc, ns) res := by
  exact ab_iret (ty := .int) d_M_share_57 rfl rfl h
theorem d_M_leftFor_0 : decode (ab_bc mt_M_leftFor) 0 = .ok (.aload_n 0, 1) := by decide +kernel
theorem d_M_leftFor_1 : decode (ab_bc mt_M_leftFor) 1 = .ok (.invokevirtual 251, 3) := by decide +kernel
theorem d_M_leftFor_4 : decode (ab_bc mt_M_leftFor) 4 = .ok (.istore_n 2, 1) := by decide +kernel
theorem d_M_leftFor_5 : decode (ab_bc mt_M_leftFor) 5 = .ok (.aload_n 0, 1) := by decide +kernel
theorem d_M_leftFor_6 : decode (ab_bc mt_M_leftFor) 6 = .ok (.iconst (-1), 1) := by decide +kernel
theorem d_M_leftFor_7 : decode (ab_bc mt_M_leftFor) 7 = .ok (.putfield 369, 3) := by decide +kernel
theorem d_M_leftFor_10 : decode (ab_bc mt_M_leftFor) 10 = .ok (.aload_n 0, 1) := by decide +kernel
theorem d_M_leftFor_11 : decode (ab_bc mt_M_leftFor) 11 = .ok (.getfield 228, 3) := by decide +kernel
theorem d_M_leftFor_14 : decode (ab_bc mt_M_leftFor) 14 = .ok (.iconst 1, 1) := by decide +kernel
theorem d_M_leftFor_15 : decode (ab_bc mt_M_leftFor) 15 = .ok (.isub, 1) := by decide +kernel
theorem d_M_leftFor_16 : decode (ab_bc mt_M_leftFor) 16 = .ok (.istore_n 3, 1) := by decide +kernel
theorem d_M_leftFor_17 : decode (ab_bc mt_M_leftFor) 17 = .ok (.iload_n 3, 1) := by decide +kernel
theorem d_M_leftFor_18 : decode (ab_bc mt_M_leftFor) 18 = .ok (.ifCond .lt 44, 3) := by decide +kernel
theorem d_M_leftFor_21 : decode (ab_bc mt_M_leftFor) 21 = .ok (.aload_n 0, 1) := by decide +kernel
theorem d_M_leftFor_22 : decode (ab_bc mt_M_leftFor) 22 = .ok (.getfield 21, 3) := by decide +kernel
theorem d_M_leftFor_25 : decode (ab_bc mt_M_leftFor) 25 = .ok (.iload_n 3, 1) := by decide +kernel
theorem d_M_leftFor_26 : decode (ab_bc mt_M_leftFor) 26 = .ok (.isub, 1) := by decide +kernel
theorem d_M_leftFor_27 : decode (ab_bc mt_M_leftFor) 27 = .ok (.iconst 1, 1) := by decide +kernel
theorem d_M_leftFor_28 : decode (ab_bc mt_M_leftFor) 28 = .ok (.isub, 1) := by decide +kernel
theorem d_M_leftFor_29 : decode (ab_bc mt_M_leftFor) 29 = .ok (.iload_n 1, 1) := by decide +kernel
theorem d_M_leftFor_30 : decode (ab_bc mt_M_leftFor) 30 = .ok (.if_icmp .ge 32, 3) := by decide +kernel
theorem d_M_leftFor_33 : decode (ab_bc mt_M_leftFor) 33 = .ok (.iload_n 2, 1) := by decide +kernel
theorem d_M_leftFor_34 : decode (ab_bc mt_M_leftFor) 34 = .ok (.iconst 1, 1) := by decide +kernel
theorem d_M_leftFor_35 : decode (ab_bc mt_M_leftFor) 35 = .ok (.aload_n 0, 1) := by decide +kernel
theorem d_M_leftFor_36 : decode (ab_bc mt_M_leftFor) 36 = .ok (.getfield 43, 3) := by decide +kernel
theorem d_M_leftFor_39 : decode (ab_bc mt_M_leftFor) 39 = .ok (.iload_n 3, 1) := by decide +kernel
theorem d_M_leftFor_40 : decode (ab_bc mt_M_leftFor) 40 = .ok (.iaload, 1) := by decide +kernel
theorem d_M_leftFor_41 : decode (ab_bc mt_M_leftFor) 41 = .ok (.ishl, 1) := by decide +kernel
theorem d_M_leftFor_42 : decode (ab_bc mt_M_leftFor) 42 = .ok (.iconst (-1), 1) := by decide +kernel
theorem d_M_leftFor_43 : decode (ab_bc mt_M_leftFor) 43 = .ok (.ixor, 1) := by decide +kernel
theorem d_M_leftFor_44 : decode (ab_bc mt_M_leftFor) 44 = .ok (.iand, 1) := by decide +kernel
theorem d_M_leftFor_45 : decode (ab_bc mt_M_leftFor) 45 = .ok (.istore_n 2, 1) := by decide +kernel
theorem d_M_leftFor_46 : decode (ab_bc mt_M_leftFor) 46 = .ok (.aload_n 0, 1) := by decide +kernel
theorem d_M_leftFor_47 : decode (ab_bc mt_M_leftFor) 47 = .ok (.aload_n 0, 1) := by decide +kernel
theorem d_M_leftFor_48 : decode (ab_bc mt_M_leftFor) 48 = .ok (.getfield 43, 3) := by decide +kernel
theorem d_M_leftFor_51 : decode (ab_bc mt_M_leftFor) 51 = .ok (.iload_n 3, 1) := by decide +kernel
theorem d_M_leftFor_52 : decode (ab_bc mt_M_leftFor) 52 = .ok (.iaload, 1) := by decide +kernel
theorem d_M_leftFor_53 : decode (ab_bc mt_M_leftFor) 53 = .ok (.putfield 369, 3) := by decide +kernel
theorem d_M_leftFor_56 : decode (ab_bc mt_M_leftFor) 56 = .ok (.iinc 3 (-1), 3) := by decide +kernel
theorem d_M_leftFor_59 : decode (ab_bc mt_M_leftFor) 59 = .ok (.goto (-42), 3) := by decide +kernel
theorem d_M_leftFor_62 : decode (ab_bc mt_M_leftFor) 62 = .ok (.iload_n 2, 1) := by decide +kernel
theorem d_M_leftFor_63 : decode (ab_bc mt_M_leftFor) 63 = .ok (.ireturn, 1) := by decide +kernel
-- CableKeeperModel.leftFor(I)I over mx
theorem q_M_leftFor_0 {w : ab_Wd} {d n nc ns : Nat} {I : Nat → Nat → Int32} {L : Nat → Nat → Int64} {res : ab_Re} (v1 : Int32) (hc : nc ≤ res.2.2.2.2.2.1) (hs : ns ≤ res.2.2.2.2.2.2)
    (h : ∃ (r1 : Int32) (I2 : Nat → Nat → Int32), ab_C w d mt_M_netNow [.ref mx] (I, L, ab_RR, n, nc, ns) (.inl (some (.int r1)), (I2, L, ab_RR, n, nc, ns)) ∧ ab_E w (d + 1) mt_M_leftFor 17 [.ref mx, .int v1, .int r1, .int ((I2 mx 21) - 1)] [] ((ab_up I2 mx 33 (-1)), L, ab_RR, n, nc, ns) res) : ab_E w (d + 1) mt_M_leftFor 0 [.ref mx, .int v1, .null, .null] [] (I, L, ab_RR, n, nc, ns) res := by
  refine ab_aload_n (i := 0) d_M_leftFor_0 rfl rfl ?_
  obtain ⟨r1, I2, hC, h⟩ := h
  refine ab_callV (me2 := mt_M_netNow) (b := mx) (as := []) (st := []) (rv := (some (.int r1))) (M2 := (I2, L, ab_RR, n, nc, ns)) d_M_leftFor_1 ce_M_netNow v_1639 v_1641 v_80 (by decide) rfl (Nat.le_of_ble_eq_true rfl) hC (Nat.le_refl _) (Nat.le_refl _) hc hs (fun j h9 => by cases h9) (fun _ _ => rfl) ?_
  show ab_E w (d + 1) mt_M_leftFor 4 [.ref mx, .int v1, .null, .null] [.int r1] (I2, L, ab_RR, n, nc, ns) res
  refine ab_istore_n (i := 2) d_M_leftFor_4 rfl (by decide) (Or.inr rfl) ?_
  refine ab_aload_n (i := 0) d_M_leftFor_5 rfl rfl ?_
  refine ab_iconst (v := (-1)) d_M_leftFor_6 rfl ?_
  refine ab_putI (ci := 11) (k := 33) d_M_leftFor_7 v_1401 rfl (by decide) (by decide) rfl (Or.inl rfl) rfl rfl ?_
  refine ab_aload_n (i := 0) d_M_leftFor_10 rfl rfl ?_
  refine ab_getI (ci := 11) (k := 21) d_M_leftFor_11 v_1389 rfl (by decide) (by decide) rfl ?_
  refine ab_iconst (v := 1) d_M_leftFor_14 rfl ?_
  refine ab_isub d_M_leftFor_15 ?_
  refine ab_istore_n (i := 3) d_M_leftFor_16 rfl (by decide) (Or.inr rfl) ?_
  exact h
theorem q_M_leftFor_17 {w : ab_Wd} {d n nc ns : Nat} {I : Nat → Nat → Int32} {L : Nat → Nat → Int64} {res : ab_Re} (v1 : Int32) (v2 : Int32) (v3 : Int32) (hc : nc ≤ res.2.2.2.2.2.1) (hs : ns ≤ res.2.2.2.2.2.2)
    (h : ((v3 < 0 → (ab_E w (d + 1) mt_M_leftFor 62 [.ref mx, .int v1, .int v2, .int v3] [] (I, L, ab_RR, n, nc, ns) res)) ∧ (¬ v3 < 0 → ((v1 ≤ (((I mx 2) - v3) - 1) → (ab_E w (d + 1) mt_M_leftFor 62 [.ref mx, .int v1, .int v2, .int v3] [] (I, L, ab_RR, n, nc, ns) res)) ∧ (¬ v1 ≤ (((I mx 2) - v3) - 1) → ((vp_in v3 24) ∧ ab_E w (d + 1) mt_M_leftFor 17 [.ref mx, .int v1, .int (v2 &&& (((1 : Int32) <<< ((I mx_taken v3.toNatClampNeg) &&& 31)) ^^^ (-1))), .int (v3 + (-1))] [] ((ab_up I mx 33 (I mx_taken v3.toNatClampNeg)), L, ab_RR, n, nc, ns) res)))))) : ab_E w (d + 1) mt_M_leftFor 17 [.ref mx, .int v1, .int v2, .int v3] [] (I, L, ab_RR, n, nc, ns) res := by
  refine ab_iload_n (i := 3) d_M_leftFor_17 rfl rfl ?_
  refine ab_if_lt (tgt := 62) d_M_leftFor_18 (by decide) (fun c1 => ?_) (fun c1 => ?_)
  · have h := h.1 c1
    exact h
  · have h := h.2 c1
    refine ab_aload_n (i := 0) d_M_leftFor_21 rfl rfl ?_
    refine ab_getI (ci := 11) (k := 2) d_M_leftFor_22 v_1370 rfl (by decide) (by decide) rfl ?_
    refine ab_iload_n (i := 3) d_M_leftFor_25 rfl rfl ?_
    refine ab_isub d_M_leftFor_26 ?_
    refine ab_iconst (v := 1) d_M_leftFor_27 rfl ?_
    refine ab_isub d_M_leftFor_28 ?_
    refine ab_iload_n (i := 1) d_M_leftFor_29 rfl rfl ?_
    refine ab_icmp_ge (tgt := 62) d_M_leftFor_30 (by decide) (fun c2 => ?_) (fun c2 => ?_)
    · have h := h.1 c2
      exact h
    · have h := h.2 c2
      refine ab_iload_n (i := 2) d_M_leftFor_33 rfl rfl ?_
      refine ab_iconst (v := 1) d_M_leftFor_34 rfl ?_
      refine ab_aload_n (i := 0) d_M_leftFor_35 rfl rfl ?_
      refine ab_getR (ci := 11) (k := 20) (j := mx_taken) d_M_leftFor_36 v_1388 rfl (by decide) (by decide) rfl r_mx_20 ?_
      refine ab_iload_n (i := 3) d_M_leftFor_39 rfl rfl ?_
      have g3 := h.1; have h := h.2
      refine ab_iald d_M_leftFor_40 rfl rfl g3 ?_
      refine ab_ishl d_M_leftFor_41 ?_
      refine ab_iconst (v := (-1)) d_M_leftFor_42 rfl ?_
      refine ab_ixor d_M_leftFor_43 ?_
      refine ab_iand d_M_leftFor_44 ?_
      refine ab_istore_n (i := 2) d_M_leftFor_45 rfl (by decide) (Or.inr rfl) ?_
      refine ab_aload_n (i := 0) d_M_leftFor_46 rfl rfl ?_
      refine ab_aload_n (i := 0) d_M_leftFor_47 rfl rfl ?_
      refine ab_getR (ci := 11) (k := 20) (j := mx_taken) d_M_leftFor_48 v_1388 rfl (by decide) (by decide) rfl r_mx_20 ?_
      refine ab_iload_n (i := 3) d_M_leftFor_51 rfl rfl ?_
      refine ab_iald d_M_leftFor_52 rfl rfl g3 ?_
      refine ab_putI (ci := 11) (k := 33) d_M_leftFor_53 v_1401 rfl (by decide) (by decide) rfl (Or.inl rfl) rfl rfl ?_
      refine ab_iinc (i := 3) (v := (v3 + (-1))) d_M_leftFor_56 rfl rfl (by decide) (Or.inr rfl) ?_
      refine ab_goto (tgt := 17) d_M_leftFor_59 (by decide) ?_
      exact h
theorem q_M_leftFor_62 {w : ab_Wd} {d n nc ns : Nat} {I : Nat → Nat → Int32} {L : Nat → Nat → Int64} {res : ab_Re} (v1 : Int32) (v2 : Int32) (v3 : Int32) (hc : nc ≤ res.2.2.2.2.2.1) (hs : ns ≤ res.2.2.2.2.2.2)
    (h : res = (.inl (some (.int v2)), (I, L, ab_RR, n, nc, ns))) : ab_E w (d + 1) mt_M_leftFor 62 [.ref mx, .int v1, .int v2, .int v3] [] (I, L, ab_RR, n, nc, ns) res := by
  refine ab_iload_n (i := 2) d_M_leftFor_62 rfl rfl ?_
  exact ab_iret (ty := .int) d_M_leftFor_63 rfl rfl h
