theorem d_K_lay_0 : decode (ab_bc mt_K_lay) 0 = .ok (.aload_n 0, 1) := by decide +kernel
theorem d_K_lay_1 : decode (ab_bc mt_K_lay) 1 = .ok (.getfield 23, 3) := by decide +kernel
theorem d_K_lay_4 : decode (ab_bc mt_K_lay) 4 = .ok (.getfield 110, 3) := by decide +kernel
theorem d_K_lay_7 : decode (ab_bc mt_K_lay) 7 = .ok (.astore 5, 2) := by decide +kernel
theorem d_K_lay_9 : decode (ab_bc mt_K_lay) 9 = .ok (.aload 5, 2) := by decide +kernel
theorem d_K_lay_11 : decode (ab_bc mt_K_lay) 11 = .ok (.iload_n 1, 1) := by decide +kernel
theorem d_K_lay_12 : decode (ab_bc mt_K_lay) 12 = .ok (.invokevirtual 355, 3) := by decide +kernel
theorem d_K_lay_15 : decode (ab_bc mt_K_lay) 15 = .ok (.ifCond .eq 46, 3) := by decide +kernel
theorem d_K_lay_18 : decode (ab_bc mt_K_lay) 18 = .ok (.aload 5, 2) := by decide +kernel
theorem d_K_lay_20 : decode (ab_bc mt_K_lay) 20 = .ok (.iload_n 2, 1) := by decide +kernel
theorem d_K_lay_21 : decode (ab_bc mt_K_lay) 21 = .ok (.invokevirtual 355, 3) := by decide +kernel
theorem d_K_lay_24 : decode (ab_bc mt_K_lay) 24 = .ok (.ifCond .eq 37, 3) := by decide +kernel
theorem d_K_lay_27 : decode (ab_bc mt_K_lay) 27 = .ok (.iload_n 1, 1) := by decide +kernel
theorem d_K_lay_28 : decode (ab_bc mt_K_lay) 28 = .ok (.iload_n 2, 1) := by decide +kernel
theorem d_K_lay_29 : decode (ab_bc mt_K_lay) 29 = .ok (.if_icmp .eq 32, 3) := by decide +kernel
theorem d_K_lay_32 : decode (ab_bc mt_K_lay) 32 = .ok (.iload_n 3, 1) := by decide +kernel
theorem d_K_lay_33 : decode (ab_bc mt_K_lay) 33 = .ok (.invokestatic 332, 3) := by decide +kernel
theorem d_K_lay_36 : decode (ab_bc mt_K_lay) 36 = .ok (.ifCond .eq 25, 3) := by decide +kernel
theorem d_K_lay_39 : decode (ab_bc mt_K_lay) 39 = .ok (.iload 4, 2) := by decide +kernel
theorem d_K_lay_41 : decode (ab_bc mt_K_lay) 41 = .ok (.invokestatic 267, 3) := by decide +kernel
theorem d_K_lay_44 : decode (ab_bc mt_K_lay) 44 = .ok (.ifCond .eq 17, 3) := by decide +kernel
theorem d_K_lay_47 : decode (ab_bc mt_K_lay) 47 = .ok (.aload 5, 2) := by decide +kernel
theorem d_K_lay_49 : decode (ab_bc mt_K_lay) 49 = .ok (.getfield 116, 3) := by decide +kernel
theorem d_K_lay_52 : decode (ab_bc mt_K_lay) 52 = .ok (.bipush 24, 2) := by decide +kernel
theorem d_K_lay_54 : decode (ab_bc mt_K_lay) 54 = .ok (.if_icmp .ge 7, 3) := by decide +kernel
theorem d_K_lay_57 : decode (ab_bc mt_K_lay) 57 = .ok (.iconst 1, 1) := by decide +kernel
theorem d_K_lay_58 : decode (ab_bc mt_K_lay) 58 = .ok (.goto 4, 3) := by decide +kernel
theorem d_K_lay_61 : decode (ab_bc mt_K_lay) 61 = .ok (.iconst 0, 1) := by decide +kernel
theorem d_K_lay_62 : decode (ab_bc mt_K_lay) 62 = .ok (.istore 6, 2) := by decide +kernel
theorem d_K_lay_64 : decode (ab_bc mt_K_lay) 64 = .ok (.iload 6, 2) := by decide +kernel
theorem d_K_lay_66 : decode (ab_bc mt_K_lay) 66 = .ok (.ifCond .ne 9, 3) := by decide +kernel
theorem d_K_lay_69 : decode (ab_bc mt_K_lay) 69 = .ok (.aload_n 0, 1) := by decide +kernel
theorem d_K_lay_70 : decode (ab_bc mt_K_lay) 70 = .ok (.iconst 1, 1) := by decide +kernel
theorem d_K_lay_71 : decode (ab_bc mt_K_lay) 71 = .ok (.invokevirtual 335, 3) := by decide +kernel
theorem d_K_lay_74 : decode (ab_bc mt_K_lay) 74 = .ok (.ireturn, 1) := by decide +kernel
theorem d_K_lay_75 : decode (ab_bc mt_K_lay) 75 = .ok (.aload_n 0, 1) := by decide +kernel
theorem d_K_lay_76 : decode (ab_bc mt_K_lay) 76 = .ok (.getfield 23, 3) := by decide +kernel
theorem d_K_lay_79 : decode (ab_bc mt_K_lay) 79 = .ok (.invokevirtual 338, 3) := by decide +kernel
theorem d_K_lay_82 : decode (ab_bc mt_K_lay) 82 = .ok (.aload 5, 2) := by decide +kernel
theorem d_K_lay_84 : decode (ab_bc mt_K_lay) 84 = .ok (.iload_n 1, 1) := by decide +kernel
theorem d_K_lay_85 : decode (ab_bc mt_K_lay) 85 = .ok (.iload_n 2, 1) := by decide +kernel
theorem d_K_lay_86 : decode (ab_bc mt_K_lay) 86 = .ok (.iload_n 3, 1) := by decide +kernel
theorem d_K_lay_87 : decode (ab_bc mt_K_lay) 87 = .ok (.iload 4, 2) := by decide +kernel
theorem d_K_lay_89 : decode (ab_bc mt_K_lay) 89 = .ok (.invokevirtual 358, 3) := by decide +kernel
theorem d_K_lay_92 : decode (ab_bc mt_K_lay) 92 = .ok (.istore 7, 2) := by decide +kernel
theorem d_K_lay_94 : decode (ab_bc mt_K_lay) 94 = .ok (.aload 5, 2) := by decide +kernel
theorem d_K_lay_96 : decode (ab_bc mt_K_lay) 96 = .ok (.invokevirtual 362, 3) := by decide +kernel
theorem d_K_lay_99 : decode (ab_bc mt_K_lay) 99 = .ok (.aload_n 0, 1) := by decide +kernel
theorem d_K_lay_100 : decode (ab_bc mt_K_lay) 100 = .ok (.iconst 5, 1) := by decide +kernel
theorem d_K_lay_101 : decode (ab_bc mt_K_lay) 101 = .ok (.iload 7, 2) := by decide +kernel
theorem d_K_lay_103 : decode (ab_bc mt_K_lay) 103 = .ok (.invokevirtual 352, 3) := by decide +kernel
theorem d_K_lay_106 : decode (ab_bc mt_K_lay) 106 = .ok (.aload_n 0, 1) := by decide +kernel
theorem d_K_lay_107 : decode (ab_bc mt_K_lay) 107 = .ok (.getfield 44, 3) := by decide +kernel
theorem d_K_lay_110 : decode (ab_bc mt_K_lay) 110 = .ok (.aload 5, 2) := by decide +kernel
theorem d_K_lay_112 : decode (ab_bc mt_K_lay) 112 = .ok (.aload_n 0, 1) := by decide +kernel
theorem d_K_lay_113 : decode (ab_bc mt_K_lay) 113 = .ok (.getfield 37, 3) := by decide +kernel
theorem d_K_lay_116 : decode (ab_bc mt_K_lay) 116 = .ok (.invokevirtual 345, 3) := by decide +kernel
theorem d_K_lay_119 : decode (ab_bc mt_K_lay) 119 = .ok (.iload 7, 2) := by decide +kernel
theorem d_K_lay_121 : decode (ab_bc mt_K_lay) 121 = .ok (.ireturn, 1) := by decide +kernel
-- CableKeeper.lay(IIII)I over kx
theorem q_K_lay_0 {w : ab_Wd} {d n nc ns : Nat} {I : Nat → Nat → Int32} {L : Nat → Nat → Int64} {res : ab_Re} (v1 : Int32) (v2 : Int32) (v3 : Int32) (v4 : Int32) (hc : nc ≤ res.2.2.2.2.2.1) (hs : ns ≤ res.2.2.2.2.2.2)
    (h : ∃ (r1 : Int32), ab_C w d mt_Cables_hasSite [.ref kx_now_cables, .int v1] (I, L, ab_RR, n, nc, ns) (.inl (some (.int r1)), (I, L, ab_RR, n, nc, ns)) ∧ ((r1 = 0 → (ab_E w (d + 1) mt_K_lay 61 [.ref kx, .int v1, .int v2, .int v3, .int v4, .ref kx_now_cables, .null, .null] [] (I, L, ab_RR, n, nc, ns) res)) ∧ (¬ r1 = 0 → (∃ (r3 : Int32), ab_C w d mt_Cables_hasSite [.ref kx_now_cables, .int v2] (I, L, ab_RR, n, nc, ns) (.inl (some (.int r3)), (I, L, ab_RR, n, nc, ns)) ∧ ((r3 = 0 → (ab_E w (d + 1) mt_K_lay 61 [.ref kx, .int v1, .int v2, .int v3, .int v4, .ref kx_now_cables, .null, .null] [] (I, L, ab_RR, n, nc, ns) res)) ∧ (¬ r3 = 0 → ((v1 = v2 → (ab_E w (d + 1) mt_K_lay 61 [.ref kx, .int v1, .int v2, .int v3, .int v4, .ref kx_now_cables, .null, .null] [] (I, L, ab_RR, n, nc, ns) res)) ∧ (¬ v1 = v2 → (∃ (r6 : Int32), ab_C w d mt_K_isPrice [.int v3] (I, L, ab_RR, n, nc, ns) (.inl (some (.int r6)), (I, L, ab_RR, n, nc, ns)) ∧ ((r6 = 0 → (ab_E w (d + 1) mt_K_lay 61 [.ref kx, .int v1, .int v2, .int v3, .int v4, .ref kx_now_cables, .null, .null] [] (I, L, ab_RR, n, nc, ns) res)) ∧ (¬ r6 = 0 → (∃ (r8 : Int32), ab_C w d mt_K_isFirm [.int v4] (I, L, ab_RR, n, nc, ns) (.inl (some (.int r8)), (I, L, ab_RR, n, nc, ns)) ∧ ((r8 = 0 → (ab_E w (d + 1) mt_K_lay 61 [.ref kx, .int v1, .int v2, .int v3, .int v4, .ref kx_now_cables, .null, .null] [] (I, L, ab_RR, n, nc, ns) res)) ∧ (¬ r8 = 0 → ((24 ≤ (I kx_now_cables 1) → (ab_E w (d + 1) mt_K_lay 61 [.ref kx, .int v1, .int v2, .int v3, .int v4, .ref kx_now_cables, .null, .null] [] (I, L, ab_RR, n, nc, ns) res)) ∧ (¬ 24 ≤ (I kx_now_cables 1) → (ab_E w (d + 1) mt_K_lay 62 [.ref kx, .int v1, .int v2, .int v3, .int v4, .ref kx_now_cables, .null, .null] [.int 1] (I, L, ab_RR, n, nc, ns) res))))))))))))))))) : ab_E w (d + 1) mt_K_lay 0 [.ref kx, .int v1, .int v2, .int v3, .int v4, .null, .null, .null] [] (I, L, ab_RR, n, nc, ns) res := by
  refine ab_aload_n (i := 0) d_K_lay_0 rfl rfl ?_
  refine ab_getR (ci := 10) (k := 3) (j := kx_now) d_K_lay_1 v_475 rfl (by decide) (by decide) rfl r_kx_3 ?_
  refine ab_getR (ci := 6) (k := 0) (j := kx_now_cables) d_K_lay_4 v_294 rfl (by decide) (by decide) rfl r_kx_now_0 ?_
  refine ab_astore (i := 5) d_K_lay_7 (by decide) (Or.inr rfl) ?_
  refine ab_aload (i := 5) d_K_lay_9 rfl ?_
  refine ab_iload_n (i := 1) d_K_lay_11 rfl rfl ?_
  obtain ⟨r1, hC, h⟩ := h
  refine ab_callV (me2 := mt_Cables_hasSite) (b := kx_now_cables) (as := [.int v1]) (st := []) (rv := (some (.int r1))) (M2 := (I, L, ab_RR, n, nc, ns)) d_K_lay_12 ce_Cables_hasSite v_633 v_634 v_635 (by decide) rfl (Nat.le_of_ble_eq_true rfl) hC (Nat.le_refl _) (Nat.le_refl _) hc hs (fun j h9 => by cases h9) (fun _ _ => rfl) ?_
  show ab_E w (d + 1) mt_K_lay 15 [.ref kx, .int v1, .int v2, .int v3, .int v4, .ref kx_now_cables, .null, .null] [.int r1] (I, L, ab_RR, n, nc, ns) res
  refine ab_if_eq (tgt := 61) d_K_lay_15 (by decide) (fun c2 => ?_) (fun c2 => ?_)
  · have h := h.1 c2
    exact h
  · have h := h.2 c2
    refine ab_aload (i := 5) d_K_lay_18 rfl ?_
    refine ab_iload_n (i := 2) d_K_lay_20 rfl rfl ?_
    obtain ⟨r3, hC, h⟩ := h
    refine ab_callV (me2 := mt_Cables_hasSite) (b := kx_now_cables) (as := [.int v2]) (st := []) (rv := (some (.int r3))) (M2 := (I, L, ab_RR, n, nc, ns)) d_K_lay_21 ce_Cables_hasSite v_633 v_634 v_635 (by decide) rfl (Nat.le_of_ble_eq_true rfl) hC (Nat.le_refl _) (Nat.le_refl _) hc hs (fun j h9 => by cases h9) (fun _ _ => rfl) ?_
    show ab_E w (d + 1) mt_K_lay 24 [.ref kx, .int v1, .int v2, .int v3, .int v4, .ref kx_now_cables, .null, .null] [.int r3] (I, L, ab_RR, n, nc, ns) res
    refine ab_if_eq (tgt := 61) d_K_lay_24 (by decide) (fun c4 => ?_) (fun c4 => ?_)
    · have h := h.1 c4
      exact h
    · have h := h.2 c4
      refine ab_iload_n (i := 1) d_K_lay_27 rfl rfl ?_
      refine ab_iload_n (i := 2) d_K_lay_28 rfl rfl ?_
      refine ab_icmp_eq (tgt := 61) d_K_lay_29 (by decide) (fun c5 => ?_) (fun c5 => ?_)
      · have h := h.1 c5
        exact h
      · have h := h.2 c5
        refine ab_iload_n (i := 3) d_K_lay_32 rfl rfl ?_
        obtain ⟨r6, hC, h⟩ := h
        refine ab_callS (me2 := mt_K_isPrice) (as := [.int v3]) (st := []) (rv := (some (.int r6))) (M2 := (I, L, ab_RR, n, nc, ns)) d_K_lay_33 ce_K_isPrice ⟨v_572, Or.inl v_571⟩ (Nat.le_of_ble_eq_true rfl) hC (Nat.le_refl _) (Nat.le_refl _) hc hs (fun j h9 => by cases h9) (fun _ _ => rfl) ?_
        show ab_E w (d + 1) mt_K_lay 36 [.ref kx, .int v1, .int v2, .int v3, .int v4, .ref kx_now_cables, .null, .null] [.int r6] (I, L, ab_RR, n, nc, ns) res
        refine ab_if_eq (tgt := 61) d_K_lay_36 (by decide) (fun c7 => ?_) (fun c7 => ?_)
        · have h := h.1 c7
          exact h
        · have h := h.2 c7
          refine ab_iload (i := 4) d_K_lay_39 rfl ?_
          obtain ⟨r8, hC, h⟩ := h
          refine ab_callS (me2 := mt_K_isFirm) (as := [.int v4]) (st := []) (rv := (some (.int r8))) (M2 := (I, L, ab_RR, n, nc, ns)) d_K_lay_41 ce_K_isFirm ⟨v_611, Or.inl v_610⟩ (Nat.le_of_ble_eq_true rfl) hC (Nat.le_refl _) (Nat.le_refl _) hc hs (fun j h9 => by cases h9) (fun _ _ => rfl) ?_
          show ab_E w (d + 1) mt_K_lay 44 [.ref kx, .int v1, .int v2, .int v3, .int v4, .ref kx_now_cables, .null, .null] [.int r8] (I, L, ab_RR, n, nc, ns) res
          refine ab_if_eq (tgt := 61) d_K_lay_44 (by decide) (fun c9 => ?_) (fun c9 => ?_)
          · have h := h.1 c9
            exact h
          · have h := h.2 c9
            refine ab_aload (i := 5) d_K_lay_47 rfl ?_
            refine ab_getI (ci := 1) (k := 1) d_K_lay_49 v_199 rfl (by decide) (by decide) rfl ?_
            refine ab_bipush (v := 24) d_K_lay_52 rfl ?_
            refine ab_icmp_ge (tgt := 61) d_K_lay_54 (by decide) (fun c10 => ?_) (fun c10 => ?_)
            · have h := h.1 c10
              exact h
            · have h := h.2 c10
              refine ab_iconst (v := 1) d_K_lay_57 rfl ?_
              refine ab_goto (tgt := 62) d_K_lay_58 (by decide) ?_
              exact h
theorem q_K_lay_61 {w : ab_Wd} {d n nc ns : Nat} {I : Nat → Nat → Int32} {L : Nat → Nat → Int64} {res : ab_Re} (v1 : Int32) (v2 : Int32) (v3 : Int32) (v4 : Int32) (hc : nc ≤ res.2.2.2.2.2.1) (hs : ns ≤ res.2.2.2.2.2.2)
    (h : ab_E w (d + 1) mt_K_lay 62 [.ref kx, .int v1, .int v2, .int v3, .int v4, .ref kx_now_cables, .null, .null] [.int 0] (I, L, ab_RR, n, nc, ns) res) : ab_E w (d + 1) mt_K_lay 61 [.ref kx, .int v1, .int v2, .int v3, .int v4, .ref kx_now_cables, .null, .null] [] (I, L, ab_RR, n, nc, ns) res := by
  refine ab_iconst (v := 0) d_K_lay_61 rfl ?_
  exact h
theorem q_K_lay_62 {w : ab_Wd} {d n nc ns : Nat} {I : Nat → Nat → Int32} {L : Nat → Nat → Int64} {res : ab_Re} (v1 : Int32) (v2 : Int32) (v3 : Int32) (v4 : Int32) (s0 : Int32) (hc : nc ≤ res.2.2.2.2.2.1) (hs : ns ≤ res.2.2.2.2.2.2)
    (h : ((¬ s0 = 0 → (∃ (I3 : Nat → Nat → Int32), ab_C w d mt_State_keepAct [.ref kx_now] (I, L, ab_RR, n, nc, ns) (.inl none, (I3, L, ab_RR, n, nc, ns)) ∧ ∃ (r4 : Int32) (I5 : Nat → Nat → Int32), ab_C w d mt_Cables_add [.ref kx_now_cables, .int v1, .int v2, .int v3, .int v4] (I3, L, ab_RR, n, nc, ns) (.inl (some (.int r4)), (I5, L, ab_RR, n, nc, ns)) ∧ ∃ (I7 : Nat → Nat → Int32), ab_C w d mt_Cables_sort [.ref kx_now_cables] (I5, L, ab_RR, n, nc, ns) (.inl none, (I7, L, ab_RR, n, nc, ns)) ∧ ∃ (I9 : Nat → Nat → Int32), ab_C w d mt_K_regrow [.ref kx, .int 5, .int r4] (I7, L, ab_RR, n, nc, ns) (.inl none, (I9, L, ab_RR, n, nc, ns)) ∧ ∃ (I11 : Nat → Nat → Int32), ab_C w d mt_Ways_trace [.ref kx_ways, .ref kx_now_cables, .ref kx_forest] (I9, L, ab_RR, n, nc, ns) (.inl none, (I11, L, ab_RR, n, nc, ns)) ∧ res = (.inl (some (.int r4)), (I11, L, ab_RR, n, nc, ns)))) ∧ (s0 = 0 → (∃ (r12 : Int32) (I13 : Nat → Nat → Int32), ab_C w d mt_K_refuse [.ref kx, .int 1] (I, L, ab_RR, n, nc, ns) (.inl (some (.int r12)), (I13, L, ab_RR, n, nc, ns)) ∧ res = (.inl (some (.int r12)), (I13, L, ab_RR, n, nc, ns)))))) : ab_E w (d + 1) mt_K_lay 62 [.ref kx, .int v1, .int v2, .int v3, .int v4, .ref kx_now_cables, .null, .null] [.int s0] (I, L, ab_RR, n, nc, ns) res := by
  refine ab_istore (i := 6) d_K_lay_62 (by decide) (Or.inr rfl) ?_
  refine ab_iload (i := 6) d_K_lay_64 rfl ?_
  refine ab_if_ne (tgt := 75) d_K_lay_66 (by decide) (fun c1 => ?_) (fun c1 => ?_)
  · have h := h.1 c1
    refine ab_aload_n (i := 0) d_K_lay_75 rfl rfl ?_
    refine ab_getR (ci := 10) (k := 3) (j := kx_now) d_K_lay_76 v_475 rfl (by decide) (by decide) rfl r_kx_3 ?_
    obtain ⟨I3, hC, h⟩ := h
    refine ab_callV (me2 := mt_State_keepAct) (b := kx_now) (as := []) (st := []) (rv := none) (M2 := (I3, L, ab_RR, n, nc, ns)) d_K_lay_79 ce_State_keepAct v_578 v_579 v_580 (by decide) rfl (Nat.le_of_ble_eq_true rfl) hC (Nat.le_refl _) (Nat.le_refl _) hc hs (fun j h9 => by cases h9) (fun _ _ => rfl) ?_
    show ab_E w (d + 1) mt_K_lay 82 [.ref kx, .int v1, .int v2, .int v3, .int v4, .ref kx_now_cables, .int s0, .null] [] (I3, L, ab_RR, n, nc, ns) res
    refine ab_aload (i := 5) d_K_lay_82 rfl ?_
    refine ab_iload_n (i := 1) d_K_lay_84 rfl rfl ?_
    refine ab_iload_n (i := 2) d_K_lay_85 rfl rfl ?_
    refine ab_iload_n (i := 3) d_K_lay_86 rfl rfl ?_
    refine ab_iload (i := 4) d_K_lay_87 rfl ?_
    obtain ⟨r4, I5, hC, h⟩ := h
    refine ab_callV (me2 := mt_Cables_add) (b := kx_now_cables) (as := [.int v1, .int v2, .int v3, .int v4]) (st := []) (rv := (some (.int r4))) (M2 := (I5, L, ab_RR, n, nc, ns)) d_K_lay_89 ce_Cables_add v_637 v_638 v_639 (by decide) rfl (Nat.le_of_ble_eq_true rfl) hC (Nat.le_refl _) (Nat.le_refl _) hc hs (fun j h9 => by cases h9) (fun _ _ => rfl) ?_
    show ab_E w (d + 1) mt_K_lay 92 [.ref kx, .int v1, .int v2, .int v3, .int v4, .ref kx_now_cables, .int s0, .null] [.int r4] (I5, L, ab_RR, n, nc, ns) res
    refine ab_istore (i := 7) d_K_lay_92 (by decide) (Or.inr rfl) ?_
    refine ab_aload (i := 5) d_K_lay_94 rfl ?_
    obtain ⟨I7, hC, h⟩ := h
    refine ab_callV (me2 := mt_Cables_sort) (b := kx_now_cables) (as := []) (st := []) (rv := none) (M2 := (I7, L, ab_RR, n, nc, ns)) d_K_lay_96 ce_Cables_sort v_591 v_592 v_593 (by decide) rfl (Nat.le_of_ble_eq_true rfl) hC (Nat.le_refl _) (Nat.le_refl _) hc hs (fun j h9 => by cases h9) (fun _ _ => rfl) ?_
    show ab_E w (d + 1) mt_K_lay 99 [.ref kx, .int v1, .int v2, .int v3, .int v4, .ref kx_now_cables, .int s0, .int r4] [] (I7, L, ab_RR, n, nc, ns) res
    refine ab_aload_n (i := 0) d_K_lay_99 rfl rfl ?_
    refine ab_iconst (v := 5) d_K_lay_100 rfl ?_
    refine ab_iload (i := 7) d_K_lay_101 rfl ?_
    obtain ⟨I9, hC, h⟩ := h
    refine ab_callV (me2 := mt_K_regrow) (b := kx) (as := [.int 5, .int r4]) (st := []) (rv := none) (M2 := (I9, L, ab_RR, n, nc, ns)) d_K_lay_103 ce_K_regrow v_595 v_597 v_12 (by decide) rfl (Nat.le_of_ble_eq_true rfl) hC (Nat.le_refl _) (Nat.le_refl _) hc hs (fun j h9 => by cases h9) (fun _ _ => rfl) ?_
    show ab_E w (d + 1) mt_K_lay 106 [.ref kx, .int v1, .int v2, .int v3, .int v4, .ref kx_now_cables, .int s0, .int r4] [] (I9, L, ab_RR, n, nc, ns) res
    refine ab_aload_n (i := 0) d_K_lay_106 rfl rfl ?_
    refine ab_getR (ci := 10) (k := 7) (j := kx_ways) d_K_lay_107 v_479 rfl (by decide) (by decide) rfl r_kx_7 ?_
    refine ab_aload (i := 5) d_K_lay_110 rfl ?_
    refine ab_aload_n (i := 0) d_K_lay_112 rfl rfl ?_
    refine ab_getR (ci := 10) (k := 6) (j := kx_forest) d_K_lay_113 v_478 rfl (by decide) (by decide) rfl r_kx_6 ?_
    obtain ⟨I11, hC, h⟩ := h
    refine ab_callV (me2 := mt_Ways_trace) (b := kx_ways) (as := [.ref kx_now_cables, .ref kx_forest]) (st := []) (rv := none) (M2 := (I11, L, ab_RR, n, nc, ns)) d_K_lay_116 ce_Ways_trace v_453 v_454 v_455 (by decide) rfl (Nat.le_of_ble_eq_true rfl) hC (Nat.le_refl _) (Nat.le_refl _) hc hs (fun j h9 => by cases h9) (fun _ _ => rfl) ?_
    show ab_E w (d + 1) mt_K_lay 119 [.ref kx, .int v1, .int v2, .int v3, .int v4, .ref kx_now_cables, .int s0, .int r4] [] (I11, L, ab_RR, n, nc, ns) res
    refine ab_iload (i := 7) d_K_lay_119 rfl ?_
    exact ab_iret (ty := .int) d_K_lay_121 rfl rfl h
  · have h := h.2 c1
    refine ab_aload_n (i := 0) d_K_lay_69 rfl rfl ?_
    refine ab_iconst (v := 1) d_K_lay_70 rfl ?_
    obtain ⟨r12, I13, hC, h⟩ := h
    refine ab_callV (me2 := mt_K_refuse) (b := kx) (as := [.int 1]) (st := []) (rv := (some (.int r12))) (M2 := (I13, L, ab_RR, n, nc, ns)) d_K_lay_71 ce_K_refuse v_574 v_576 v_10 (by decide) rfl (Nat.le_of_ble_eq_true rfl) hC (Nat.le_refl _) (Nat.le_refl _) hc hs (fun j h9 => by cases h9) (fun _ _ => rfl) ?_
    show ab_E w (d + 1) mt_K_lay 74 [.ref kx, .int v1, .int v2, .int v3, .int v4, .ref kx_now_cables, .int s0, .null] [.int r12] (I13, L, ab_RR, n, nc, ns) res
    exact ab_iret (ty := .int) d_K_lay_74 rfl rfl h
theorem d_K_undo_0 : decode (ab_bc mt_K_undo) 0 = .ok (.aload_n 0, 1) := by decide +kernel
theorem d_K_undo_1 : decode (ab_bc mt_K_undo) 1 = .ok (.getfield 23, 3) := by decide +kernel
theorem d_K_undo_4 : decode (ab_bc mt_K_undo) 4 = .ok (.getfield 155, 3) := by decide +kernel
theorem d_K_undo_7 : decode (ab_bc mt_K_undo) 7 = .ok (.getfield 159, 3) := by decide +kernel
theorem d_K_undo_10 : decode (ab_bc mt_K_undo) 10 = .ok (.ifCond .ne 5, 3) := by decide +kernel
theorem d_K_undo_13 : decode (ab_bc mt_K_undo) 13 = .ok (.iconst (-1), 1) := by decide +kernel
theorem d_K_undo_14 : decode (ab_bc mt_K_undo) 14 = .ok (.ireturn, 1) := by decide +kernel
theorem d_K_undo_15 : decode (ab_bc mt_K_undo) 15 = .ok (.aload_n 0, 1) := by decide +kernel
theorem d_K_undo_16 : decode (ab_bc mt_K_undo) 16 = .ok (.getfield 23, 3) := by decide +kernel
theorem d_K_undo_19 : decode (ab_bc mt_K_undo) 19 = .ok (.getfield 131, 3) := by decide +kernel
theorem d_K_undo_22 : decode (ab_bc mt_K_undo) 22 = .ok (.aload_n 0, 1) := by decide +kernel
theorem d_K_undo_23 : decode (ab_bc mt_K_undo) 23 = .ok (.getfield 23, 3) := by decide +kernel
theorem d_K_undo_26 : decode (ab_bc mt_K_undo) 26 = .ok (.getfield 155, 3) := by decide +kernel
theorem d_K_undo_29 : decode (ab_bc mt_K_undo) 29 = .ok (.aload_n 0, 1) := by decide +kernel
theorem d_K_undo_30 : decode (ab_bc mt_K_undo) 30 = .ok (.getfield 23, 3) := by decide +kernel
theorem d_K_undo_33 : decode (ab_bc mt_K_undo) 33 = .ok (.getfield 110, 3) := by decide +kernel
theorem d_K_undo_36 : decode (ab_bc mt_K_undo) 36 = .ok (.invokevirtual 365, 3) := by decide +kernel
theorem d_K_undo_39 : decode (ab_bc mt_K_undo) 39 = .ok (.putfield 140, 3) := by decide +kernel
theorem d_K_undo_42 : decode (ab_bc mt_K_undo) 42 = .ok (.aload_n 0, 1) := by decide +kernel
theorem d_K_undo_43 : decode (ab_bc mt_K_undo) 43 = .ok (.invokevirtual 83, 3) := by decide +kernel
theorem d_K_undo_46 : decode (ab_bc mt_K_undo) 46 = .ok (.aload_n 0, 1) := by decide +kernel
theorem d_K_undo_47 : decode (ab_bc mt_K_undo) 47 = .ok (.getfield 23, 3) := by decide +kernel
theorem d_K_undo_50 : decode (ab_bc mt_K_undo) 50 = .ok (.getfield 155, 3) := by decide +kernel
theorem d_K_undo_53 : decode (ab_bc mt_K_undo) 53 = .ok (.getfield 159, 3) := by decide +kernel
theorem d_K_undo_56 : decode (ab_bc mt_K_undo) 56 = .ok (.ireturn, 1) := by decide +kernel
-- CableKeeper.undo()I over kx
theorem q_K_undo_0 {w : ab_Wd} {d n nc ns : Nat} {I : Nat → Nat → Int32} {L : Nat → Nat → Int64} {res : ab_Re}  (hc : nc ≤ res.2.2.2.2.2.1) (hs : ns ≤ res.2.2.2.2.2.2)
    (h : ((¬ (I kx_now_acts 5) = 0 → (∃ (r2 : Int32) (I3 : Nat → Nat → Int32), ab_C w d mt_Acts_takeBack [.ref kx_now_acts, .ref kx_now_cables] (I, L, ab_RR, n, nc, ns) (.inl (some (.int r2)), (I3, L, ab_RR, n, nc, ns)) ∧ ∃ (I5 : Nat → Nat → Int32), ab_C w d mt_K_settle [.ref kx] ((ab_up I3 kx_now_swaps 1 r2), L, ab_RR, n, nc, ns) (.inl none, (I5, L, ab_RR, n, nc, ns)) ∧ res = (.inl (some (.int (I5 kx_now_acts 5))), (I5, L, ab_RR, n, nc, ns)))) ∧ ((I kx_now_acts 5) = 0 → (res = (.inl (some (.int (-1))), (I, L, ab_RR, n, nc, ns)))))) : ab_E w (d + 1) mt_K_undo 0 [.ref kx] [] (I, L, ab_RR, n, nc, ns) res := by
  refine ab_aload_n (i := 0) d_K_undo_0 rfl rfl ?_
  refine ab_getR (ci := 10) (k := 3) (j := kx_now) d_K_undo_1 v_475 rfl (by decide) (by decide) rfl r_kx_3 ?_
  refine ab_getR (ci := 6) (k := 2) (j := kx_now_acts) d_K_undo_4 v_298 rfl (by decide) (by decide) rfl r_kx_now_2 ?_
  refine ab_getI (ci := 0) (k := 5) d_K_undo_7 v_279 rfl (by decide) (by decide) rfl ?_
  refine ab_if_ne (tgt := 15) d_K_undo_10 (by decide) (fun c1 => ?_) (fun c1 => ?_)
  · have h := h.1 c1
    refine ab_aload_n (i := 0) d_K_undo_15 rfl rfl ?_
    refine ab_getR (ci := 10) (k := 3) (j := kx_now) d_K_undo_16 v_475 rfl (by decide) (by decide) rfl r_kx_3 ?_
    refine ab_getR (ci := 6) (k := 1) (j := kx_now_swaps) d_K_undo_19 v_296 rfl (by decide) (by decide) rfl r_kx_now_1 ?_
    refine ab_aload_n (i := 0) d_K_undo_22 rfl rfl ?_
    refine ab_getR (ci := 10) (k := 3) (j := kx_now) d_K_undo_23 v_475 rfl (by decide) (by decide) rfl r_kx_3 ?_
    refine ab_getR (ci := 6) (k := 2) (j := kx_now_acts) d_K_undo_26 v_298 rfl (by decide) (by decide) rfl r_kx_now_2 ?_
    refine ab_aload_n (i := 0) d_K_undo_29 rfl rfl ?_
    refine ab_getR (ci := 10) (k := 3) (j := kx_now) d_K_undo_30 v_475 rfl (by decide) (by decide) rfl r_kx_3 ?_
    refine ab_getR (ci := 6) (k := 0) (j := kx_now_cables) d_K_undo_33 v_294 rfl (by decide) (by decide) rfl r_kx_now_0 ?_
    obtain ⟨r2, I3, hC, h⟩ := h
    refine ab_callV (me2 := mt_Acts_takeBack) (b := kx_now_acts) (as := [.ref kx_now_cables]) (st := [.ref kx_now_swaps]) (rv := (some (.int r2))) (M2 := (I3, L, ab_RR, n, nc, ns)) d_K_undo_36 ce_Acts_takeBack v_645 v_646 v_647 (by decide) rfl (Nat.le_of_ble_eq_true rfl) hC (Nat.le_refl _) (Nat.le_refl _) hc hs (fun j h9 => by cases h9) (fun _ _ => rfl) ?_
    show ab_E w (d + 1) mt_K_undo 39 [.ref kx] [.int r2, .ref kx_now_swaps] (I3, L, ab_RR, n, nc, ns) res
    refine ab_putI (ci := 7) (k := 1) d_K_undo_39 v_261 rfl (by decide) (by decide) rfl (Or.inl rfl) rfl rfl ?_
    refine ab_aload_n (i := 0) d_K_undo_42 rfl rfl ?_
    obtain ⟨I5, hC, h⟩ := h
    refine ab_callV (me2 := mt_K_settle) (b := kx) (as := []) (st := []) (rv := none) (M2 := (I5, L, ab_RR, n, nc, ns)) d_K_undo_43 ce_K_settle v_436 v_438 v_0 (by decide) rfl (Nat.le_of_ble_eq_true rfl) hC (Nat.le_refl _) (Nat.le_refl _) hc hs (fun j h9 => by cases h9) (fun _ _ => rfl) ?_
    show ab_E w (d + 1) mt_K_undo 46 [.ref kx] [] (I5, L, ab_RR, n, nc, ns) res
    refine ab_aload_n (i := 0) d_K_undo_46 rfl rfl ?_
    refine ab_getR (ci := 10) (k := 3) (j := kx_now) d_K_undo_47 v_475 rfl (by decide) (by decide) rfl r_kx_3 ?_
    refine ab_getR (ci := 6) (k := 2) (j := kx_now_acts) d_K_undo_50 v_298 rfl (by decide) (by decide) rfl r_kx_now_2 ?_
    refine ab_getI (ci := 0) (k := 5) d_K_undo_53 v_279 rfl (by decide) (by decide) rfl ?_
    exact ab_iret (ty := .int) d_K_undo_56 rfl rfl h
  · have h := h.2 c1
    refine ab_iconst (v := (-1)) d_K_undo_13 rfl ?_
    exact ab_iret (ty := .int) d_K_undo_14 rfl rfl h
theorem d_K_note_0 : decode (ab_bc mt_K_note) 0 = .ok (.aload_n 0, 1) := by decide +kernel
theorem d_K_note_1 : decode (ab_bc mt_K_note) 1 = .ok (.getfield 23, 3) := by decide +kernel
theorem d_K_note_4 : decode (ab_bc mt_K_note) 4 = .ok (.getfield 164, 3) := by decide +kernel
theorem d_K_note_7 : decode (ab_bc mt_K_note) 7 = .ok (.bipush 8, 2) := by decide +kernel
theorem d_K_note_9 : decode (ab_bc mt_K_note) 9 = .ok (.if_icmp .ge 17, 3) := by decide +kernel
theorem d_K_note_12 : decode (ab_bc mt_K_note) 12 = .ok (.aload_n 0, 1) := by decide +kernel
theorem d_K_note_13 : decode (ab_bc mt_K_note) 13 = .ok (.getfield 23, 3) := by decide +kernel
theorem d_K_note_16 : decode (ab_bc mt_K_note) 16 = .ok (.getfield 110, 3) := by decide +kernel
theorem d_K_note_19 : decode (ab_bc mt_K_note) 19 = .ok (.iload_n 1, 1) := by decide +kernel
theorem d_K_note_20 : decode (ab_bc mt_K_note) 20 = .ok (.invokevirtual 329, 3) := by decide +kernel
theorem d_K_note_23 : decode (ab_bc mt_K_note) 23 = .ok (.ifCond .ne 9, 3) := by decide +kernel
theorem d_K_note_26 : decode (ab_bc mt_K_note) 26 = .ok (.aload_n 0, 1) := by decide +kernel
theorem d_K_note_27 : decode (ab_bc mt_K_note) 27 = .ok (.iconst 2, 1) := by decide +kernel
theorem d_K_note_28 : decode (ab_bc mt_K_note) 28 = .ok (.invokevirtual 335, 3) := by decide +kernel
theorem d_K_note_31 : decode (ab_bc mt_K_note) 31 = .ok (.ireturn, 1) := by decide +kernel
theorem d_K_note_32 : decode (ab_bc mt_K_note) 32 = .ok (.iload_n 2, 1) := by decide +kernel
theorem d_K_note_33 : decode (ab_bc mt_K_note) 33 = .ok (.ifCond .eq 21, 3) := by decide +kernel
theorem d_K_note_36 : decode (ab_bc mt_K_note) 36 = .ok (.aload_n 0, 1) := by decide +kernel
theorem d_K_note_37 : decode (ab_bc mt_K_note) 37 = .ok (.getfield 23, 3) := by decide +kernel
theorem d_K_note_40 : decode (ab_bc mt_K_note) 40 = .ok (.dup, 1) := by decide +kernel
theorem d_K_note_41 : decode (ab_bc mt_K_note) 41 = .ok (.getfield 369, 3) := by decide +kernel
theorem d_K_note_44 : decode (ab_bc mt_K_note) 44 = .ok (.iconst 1, 1) := by decide +kernel
theorem d_K_note_45 : decode (ab_bc mt_K_note) 45 = .ok (.iload_n 1, 1) := by decide +kernel
theorem d_K_note_46 : decode (ab_bc mt_K_note) 46 = .ok (.ishl, 1) := by decide +kernel
theorem d_K_note_47 : decode (ab_bc mt_K_note) 47 = .ok (.ior, 1) := by decide +kernel
theorem d_K_note_48 : decode (ab_bc mt_K_note) 48 = .ok (.putfield 369, 3) := by decide +kernel
theorem d_K_note_51 : decode (ab_bc mt_K_note) 51 = .ok (.goto 18, 3) := by decide +kernel
theorem d_K_note_54 : decode (ab_bc mt_K_note) 54 = .ok (.aload_n 0, 1) := by decide +kernel
theorem d_K_note_55 : decode (ab_bc mt_K_note) 55 = .ok (.getfield 23, 3) := by decide +kernel
theorem d_K_note_58 : decode (ab_bc mt_K_note) 58 = .ok (.dup, 1) := by decide +kernel
theorem d_K_note_59 : decode (ab_bc mt_K_note) 59 = .ok (.getfield 372, 3) := by decide +kernel
theorem d_K_note_62 : decode (ab_bc mt_K_note) 62 = .ok (.iconst 1, 1) := by decide +kernel
theorem d_K_note_63 : decode (ab_bc mt_K_note) 63 = .ok (.iload_n 1, 1) := by decide +kernel
theorem d_K_note_64 : decode (ab_bc mt_K_note) 64 = .ok (.ishl, 1) := by decide +kernel
theorem d_K_note_65 : decode (ab_bc mt_K_note) 65 = .ok (.ior, 1) := by decide +kernel
theorem d_K_note_66 : decode (ab_bc mt_K_note) 66 = .ok (.putfield 372, 3) := by decide +kernel
theorem d_K_note_69 : decode (ab_bc mt_K_note) 69 = .ok (.aload_n 0, 1) := by decide +kernel
theorem d_K_note_70 : decode (ab_bc mt_K_note) 70 = .ok (.getfield 23, 3) := by decide +kernel
theorem d_K_note_73 : decode (ab_bc mt_K_note) 73 = .ok (.dup, 1) := by decide +kernel
theorem d_K_note_74 : decode (ab_bc mt_K_note) 74 = .ok (.getfield 164, 3) := by decide +kernel
theorem d_K_note_77 : decode (ab_bc mt_K_note) 77 = .ok (.iconst 1, 1) := by decide +kernel
theorem d_K_note_78 : decode (ab_bc mt_K_note) 78 = .ok (.iadd, 1) := by decide +kernel
theorem d_K_note_79 : decode (ab_bc mt_K_note) 79 = .ok (.putfield 164, 3) := by decide +kernel
theorem d_K_note_82 : decode (ab_bc mt_K_note) 82 = .ok (.aload_n 0, 1) := by decide +kernel
theorem d_K_note_83 : decode (ab_bc mt_K_note) 83 = .ok (.getfield 23, 3) := by decide +kernel
theorem d_K_note_86 : decode (ab_bc mt_K_note) 86 = .ok (.getfield 164, 3) := by decide +kernel
theorem d_K_note_89 : decode (ab_bc mt_K_note) 89 = .ok (.ireturn, 1) := by decide +kernel
-- CableKeeper.note(IZ)I over kx
theorem q_K_note_0 {w : ab_Wd} {d n nc ns : Nat} {I : Nat → Nat → Int32} {L : Nat → Nat → Int64} {res : ab_Re} (v1 : Int32) (v2 : Int32) (hc : nc ≤ res.2.2.2.2.2.1) (hs : ns ≤ res.2.2.2.2.2.2)
    (h : ((8 ≤ (I kx_now 3) → (ab_E w (d + 1) mt_K_note 26 [.ref kx, .int v1, .int v2] [] (I, L, ab_RR, n, nc, ns) res)) ∧ (¬ 8 ≤ (I kx_now 3) → (∃ (r2 : Int32), ab_C w d mt_Cables_has [.ref kx_now_cables, .int v1] (I, L, ab_RR, n, nc, ns) (.inl (some (.int r2)), (I, L, ab_RR, n, nc, ns)) ∧ ((¬ r2 = 0 → ((v2 = 0 → (ab_E w (d + 1) mt_K_note 69 [.ref kx, .int v1, .int v2] [] ((ab_up I kx_now 5 ((I kx_now 5) ||| ((1 : Int32) <<< (v1 &&& 31)))), L, ab_RR, n, nc, ns) res)) ∧ (¬ v2 = 0 → (ab_E w (d + 1) mt_K_note 69 [.ref kx, .int v1, .int v2] [] ((ab_up I kx_now 4 ((I kx_now 4) ||| ((1 : Int32) <<< (v1 &&& 31)))), L, ab_RR, n, nc, ns) res)))) ∧ (r2 = 0 → (ab_E w (d + 1) mt_K_note 26 [.ref kx, .int v1, .int v2] [] (I, L, ab_RR, n, nc, ns) res))))))) : ab_E w (d + 1) mt_K_note 0 [.ref kx, .int v1, .int v2] [] (I, L, ab_RR, n, nc, ns) res := by
  refine ab_aload_n (i := 0) d_K_note_0 rfl rfl ?_
  refine ab_getR (ci := 10) (k := 3) (j := kx_now) d_K_note_1 v_475 rfl (by decide) (by decide) rfl r_kx_3 ?_
  refine ab_getI (ci := 6) (k := 3) d_K_note_4 v_300 rfl (by decide) (by decide) rfl ?_
  refine ab_bipush (v := 8) d_K_note_7 rfl ?_
  refine ab_icmp_ge (tgt := 26) d_K_note_9 (by decide) (fun c1 => ?_) (fun c1 => ?_)
  · have h := h.1 c1
    exact h
  · have h := h.2 c1
    refine ab_aload_n (i := 0) d_K_note_12 rfl rfl ?_
    refine ab_getR (ci := 10) (k := 3) (j := kx_now) d_K_note_13 v_475 rfl (by decide) (by decide) rfl r_kx_3 ?_
    refine ab_getR (ci := 6) (k := 0) (j := kx_now_cables) d_K_note_16 v_294 rfl (by decide) (by decide) rfl r_kx_now_0 ?_
    refine ab_iload_n (i := 1) d_K_note_19 rfl rfl ?_
    obtain ⟨r2, hC, h⟩ := h
    refine ab_callV (me2 := mt_Cables_has) (b := kx_now_cables) (as := [.int v1]) (st := []) (rv := (some (.int r2))) (M2 := (I, L, ab_RR, n, nc, ns)) d_K_note_20 ce_Cables_has v_567 v_568 v_569 (by decide) rfl (Nat.le_of_ble_eq_true rfl) hC (Nat.le_refl _) (Nat.le_refl _) hc hs (fun j h9 => by cases h9) (fun _ _ => rfl) ?_
    show ab_E w (d + 1) mt_K_note 23 [.ref kx, .int v1, .int v2] [.int r2] (I, L, ab_RR, n, nc, ns) res
    refine ab_if_ne (tgt := 32) d_K_note_23 (by decide) (fun c3 => ?_) (fun c3 => ?_)
    · have h := h.1 c3
      refine ab_iload_n (i := 2) d_K_note_32 rfl rfl ?_
      refine ab_if_eq (tgt := 54) d_K_note_33 (by decide) (fun c4 => ?_) (fun c4 => ?_)
      · have h := h.1 c4
        refine ab_aload_n (i := 0) d_K_note_54 rfl rfl ?_
        refine ab_getR (ci := 10) (k := 3) (j := kx_now) d_K_note_55 v_475 rfl (by decide) (by decide) rfl r_kx_3 ?_
        refine ab_dupr d_K_note_58 ?_
        refine ab_getI (ci := 6) (k := 5) d_K_note_59 v_304 rfl (by decide) (by decide) rfl ?_
        refine ab_iconst (v := 1) d_K_note_62 rfl ?_
        refine ab_iload_n (i := 1) d_K_note_63 rfl rfl ?_
        refine ab_ishl d_K_note_64 ?_
        refine ab_ior d_K_note_65 ?_
        refine ab_putI (ci := 6) (k := 5) d_K_note_66 v_304 rfl (by decide) (by decide) rfl (Or.inl rfl) rfl rfl ?_
        exact h
      · have h := h.2 c4
        refine ab_aload_n (i := 0) d_K_note_36 rfl rfl ?_
        refine ab_getR (ci := 10) (k := 3) (j := kx_now) d_K_note_37 v_475 rfl (by decide) (by decide) rfl r_kx_3 ?_
        refine ab_dupr d_K_note_40 ?_
        refine ab_getI (ci := 6) (k := 4) d_K_note_41 v_302 rfl (by decide) (by decide) rfl ?_
        refine ab_iconst (v := 1) d_K_note_44 rfl ?_
        refine ab_iload_n (i := 1) d_K_note_45 rfl rfl ?_
        refine ab_ishl d_K_note_46 ?_
        refine ab_ior d_K_note_47 ?_
        refine ab_putI (ci := 6) (k := 4) d_K_note_48 v_302 rfl (by decide) (by decide) rfl (Or.inl rfl) rfl rfl ?_
        refine ab_goto (tgt := 69) d_K_note_51 (by decide) ?_
        exact h
    · have h := h.2 c3
      exact h
theorem q_K_note_26 {w : ab_Wd} {d n nc ns : Nat} {I : Nat → Nat → Int32} {L : Nat → Nat → Int64} {res : ab_Re} (v1 : Int32) (v2 : Int32) (hc : nc ≤ res.2.2.2.2.2.1) (hs : ns ≤ res.2.2.2.2.2.2)
    (h : ∃ (r1 : Int32) (I2 : Nat → Nat → Int32), ab_C w d mt_K_refuse [.ref kx, .int 2] (I, L, ab_RR, n, nc, ns) (.inl (some (.int r1)), (I2, L, ab_RR, n, nc, ns)) ∧ res = (.inl (some (.int r1)), (I2, L, ab_RR, n, nc, ns))) : ab_E w (d + 1) mt_K_note 26 [.ref kx, .int v1, .int v2] [] (I, L, ab_RR, n, nc, ns) res := by
  refine ab_aload_n (i := 0) d_K_note_26 rfl rfl ?_
  refine ab_iconst (v := 2) d_K_note_27 rfl ?_
  obtain ⟨r1, I2, hC, h⟩ := h
  refine ab_callV (me2 := mt_K_refuse) (b := kx) (as := [.int 2]) (st := []) (rv := (some (.int r1))) (M2 := (I2, L, ab_RR, n, nc, ns)) d_K_note_28 ce_K_refuse v_574 v_576 v_10 (by decide) rfl (Nat.le_of_ble_eq_true rfl) hC (Nat.le_refl _) (Nat.le_refl _) hc hs (fun j h9 => by cases h9) (fun _ _ => rfl) ?_
  show ab_E w (d + 1) mt_K_note 31 [.ref kx, .int v1, .int v2] [.int r1] (I2, L, ab_RR, n, nc, ns) res
  exact ab_iret (ty := .int) d_K_note_31 rfl rfl h
theorem q_K_note_69 {w : ab_Wd} {d n nc ns : Nat} {I : Nat → Nat → Int32} {L : Nat → Nat → Int64} {res : ab_Re} (v1 : Int32) (v2 : Int32) (hc : nc ≤ res.2.2.2.2.2.1) (hs : ns ≤ res.2.2.2.2.2.2)
    (h : res = (.inl (some (.int ((I kx_now 3) + 1))), ((ab_up I kx_now 3 ((I kx_now 3) + 1)), L, ab_RR, n, nc, ns))) : ab_E w (d + 1) mt_K_note 69 [.ref kx, .int v1, .int v2] [] (I, L, ab_RR, n, nc, ns) res := by
  refine ab_aload_n (i := 0) d_K_note_69 rfl rfl ?_
  refine ab_getR (ci := 10) (k := 3) (j := kx_now) d_K_note_70 v_475 rfl (by decide) (by decide) rfl r_kx_3 ?_
  refine ab_dupr d_K_note_73 ?_
  refine ab_getI (ci := 6) (k := 3) d_K_note_74 v_300 rfl (by decide) (by decide) rfl ?_
  refine ab_iconst (v := 1) d_K_note_77 rfl ?_
  refine ab_iadd d_K_note_78 ?_
  refine ab_putI (ci := 6) (k := 3) d_K_note_79 v_300 rfl (by decide) (by decide) rfl (Or.inl rfl) rfl rfl ?_
  refine ab_aload_n (i := 0) d_K_note_82 rfl rfl ?_
  refine ab_getR (ci := 10) (k := 3) (j := kx_now) d_K_note_83 v_475 rfl (by decide) (by decide) rfl r_kx_3 ?_
  refine ab_getI (ci := 6) (k := 3) d_K_note_86 v_300 rfl (by decide) (by decide) rfl ?_
  exact ab_iret (ty := .int) d_K_note_89 rfl rfl h
theorem d_K_fits_0 : decode (ab_bc mt_K_fits) 0 = .ok (.aload_n 0, 1) := by decide +kernel
theorem d_K_fits_1 : decode (ab_bc mt_K_fits) 1 = .ok (.iload_n 1, 1) := by decide +kernel
theorem d_K_fits_2 : decode (ab_bc mt_K_fits) 2 = .ok (.invokevirtual 186, 3) := by decide +kernel
theorem d_K_fits_5 : decode (ab_bc mt_K_fits) 5 = .ok (.iload_n 2, 1) := by decide +kernel
theorem d_K_fits_6 : decode (ab_bc mt_K_fits) 6 = .ok (.ifCond .lt 8, 3) := by decide +kernel
theorem d_K_fits_9 : decode (ab_bc mt_K_fits) 9 = .ok (.iload_n 2, 1) := by decide +kernel
theorem d_K_fits_10 : decode (ab_bc mt_K_fits) 10 = .ok (.iconst 1, 1) := by decide +kernel
theorem d_K_fits_11 : decode (ab_bc mt_K_fits) 11 = .ok (.if_icmp .le 11, 3) := by decide +kernel
theorem d_K_fits_14 : decode (ab_bc mt_K_fits) 14 = .ok (.new 183, 3) := by decide +kernel
theorem d_K_fits_17 : decode (ab_bc mt_K_fits) 17 = .ok (.dup, 1) := by decide +kernel
theorem d_K_fits_18 : decode (ab_bc mt_K_fits) 18 = .ok (.invokespecial 185, 3) := by decide +kernel
theorem d_K_fits_21 : decode (ab_bc mt_K_fits) 21 = .ok (.athrow, 1) := by decide +kernel
theorem d_K_fits_22 : decode (ab_bc mt_K_fits) 22 = .ok (.aload_n 0, 1) := by decide +kernel
theorem d_K_fits_23 : decode (ab_bc mt_K_fits) 23 = .ok (.iload_n 1, 1) := by decide +kernel
theorem d_K_fits_24 : decode (ab_bc mt_K_fits) 24 = .ok (.invokevirtual 375, 3) := by decide +kernel
theorem d_K_fits_27 : decode (ab_bc mt_K_fits) 27 = .ok (.aload_n 0, 1) := by decide +kernel
theorem d_K_fits_28 : decode (ab_bc mt_K_fits) 28 = .ok (.iload_n 1, 1) := by decide +kernel
theorem d_K_fits_29 : decode (ab_bc mt_K_fits) 29 = .ok (.invokevirtual 220, 3) := by decide +kernel
theorem d_K_fits_32 : decode (ab_bc mt_K_fits) 32 = .ok (.iconst 0, 1) := by decide +kernel
theorem d_K_fits_33 : decode (ab_bc mt_K_fits) 33 = .ok (.invokestatic 378, 3) := by decide +kernel
theorem d_K_fits_36 : decode (ab_bc mt_K_fits) 36 = .ok (.istore_n 3, 1) := by decide +kernel
theorem d_K_fits_37 : decode (ab_bc mt_K_fits) 37 = .ok (.aload_n 0, 1) := by decide +kernel
theorem d_K_fits_38 : decode (ab_bc mt_K_fits) 38 = .ok (.getfield 23, 3) := by decide +kernel
theorem d_K_fits_41 : decode (ab_bc mt_K_fits) 41 = .ok (.aload_n 0, 1) := by decide +kernel
theorem d_K_fits_42 : decode (ab_bc mt_K_fits) 42 = .ok (.iload_n 1, 1) := by decide +kernel
theorem d_K_fits_43 : decode (ab_bc mt_K_fits) 43 = .ok (.invokevirtual 381, 3) := by decide +kernel
theorem d_K_fits_46 : decode (ab_bc mt_K_fits) 46 = .ok (.invokevirtual 384, 3) := by decide +kernel
theorem d_K_fits_49 : decode (ab_bc mt_K_fits) 49 = .ok (.ifCond .eq 7, 3) := by decide +kernel
theorem d_K_fits_52 : decode (ab_bc mt_K_fits) 52 = .ok (.iload_n 3, 1) := by decide +kernel
theorem d_K_fits_53 : decode (ab_bc mt_K_fits) 53 = .ok (.goto 4, 3) := by decide +kernel
theorem d_K_fits_56 : decode (ab_bc mt_K_fits) 56 = .ok (.iconst 0, 1) := by decide +kernel
theorem d_K_fits_57 : decode (ab_bc mt_K_fits) 57 = .ok (.istore 4, 2) := by decide +kernel
theorem d_K_fits_59 : decode (ab_bc mt_K_fits) 59 = .ok (.aload_n 0, 1) := by decide +kernel
theorem d_K_fits_60 : decode (ab_bc mt_K_fits) 60 = .ok (.getfield 23, 3) := by decide +kernel
theorem d_K_fits_63 : decode (ab_bc mt_K_fits) 63 = .ok (.aload_n 0, 1) := by decide +kernel
theorem d_K_fits_64 : decode (ab_bc mt_K_fits) 64 = .ok (.iload_n 1, 1) := by decide +kernel
theorem d_K_fits_65 : decode (ab_bc mt_K_fits) 65 = .ok (.invokevirtual 387, 3) := by decide +kernel
theorem d_K_fits_68 : decode (ab_bc mt_K_fits) 68 = .ok (.invokevirtual 384, 3) := by decide +kernel
theorem d_K_fits_71 : decode (ab_bc mt_K_fits) 71 = .ok (.ifCond .eq 11, 3) := by decide +kernel
theorem d_K_fits_74 : decode (ab_bc mt_K_fits) 74 = .ok (.sipush 999, 3) := by decide +kernel
theorem d_K_fits_77 : decode (ab_bc mt_K_fits) 77 = .ok (.iload_n 3, 1) := by decide +kernel
theorem d_K_fits_78 : decode (ab_bc mt_K_fits) 78 = .ok (.isub, 1) := by decide +kernel
theorem d_K_fits_79 : decode (ab_bc mt_K_fits) 79 = .ok (.goto 4, 3) := by decide +kernel
theorem d_K_fits_82 : decode (ab_bc mt_K_fits) 82 = .ok (.iconst 0, 1) := by decide +kernel
theorem d_K_fits_83 : decode (ab_bc mt_K_fits) 83 = .ok (.istore 5, 2) := by decide +kernel
theorem d_K_fits_85 : decode (ab_bc mt_K_fits) 85 = .ok (.iload_n 2, 1) := by decide +kernel
theorem d_K_fits_86 : decode (ab_bc mt_K_fits) 86 = .ok (.ifCond .ne 9, 3) := by decide +kernel
theorem d_K_fits_89 : decode (ab_bc mt_K_fits) 89 = .ok (.iload 4, 2) := by decide +kernel
theorem d_K_fits_91 : decode (ab_bc mt_K_fits) 91 = .ok (.iload 5, 2) := by decide +kernel
theorem d_K_fits_93 : decode (ab_bc mt_K_fits) 93 = .ok (.iadd, 1) := by decide +kernel
theorem d_K_fits_94 : decode (ab_bc mt_K_fits) 94 = .ok (.ireturn, 1) := by decide +kernel
theorem d_K_fits_95 : decode (ab_bc mt_K_fits) 95 = .ok (.iload 4, 2) := by decide +kernel
theorem d_K_fits_97 : decode (ab_bc mt_K_fits) 97 = .ok (.ifCond .le 5, 3) := by decide +kernel
theorem d_K_fits_100 : decode (ab_bc mt_K_fits) 100 = .ok (.iconst 1, 1) := by decide +kernel
theorem d_K_fits_101 : decode (ab_bc mt_K_fits) 101 = .ok (.ireturn, 1) := by decide +kernel
theorem d_K_fits_102 : decode (ab_bc mt_K_fits) 102 = .ok (.iload 5, 2) := by decide +kernel
theorem d_K_fits_104 : decode (ab_bc mt_K_fits) 104 = .ok (.ifCond .le 9, 3) := by decide +kernel
theorem d_K_fits_107 : decode (ab_bc mt_K_fits) 107 = .ok (.iload_n 3, 1) := by decide +kernel
theorem d_K_fits_108 : decode (ab_bc mt_K_fits) 108 = .ok (.iconst 1, 1) := by decide +kernel
theorem d_K_fits_109 : decode (ab_bc mt_K_fits) 109 = .ok (.iadd, 1) := by decide +kernel
theorem d_K_fits_110 : decode (ab_bc mt_K_fits) 110 = .ok (.goto 4, 3) := by decide +kernel
theorem d_K_fits_113 : decode (ab_bc mt_K_fits) 113 = .ok (.iconst (-1), 1) := by decide +kernel
theorem d_K_fits_114 : decode (ab_bc mt_K_fits) 114 = .ok (.ireturn, 1) := by decide +kernel
-- CableKeeper.fits(II)I over kx
theorem q_K_fits_0 {w : ab_Wd} {d n nc ns : Nat} {I : Nat → Nat → Int32} {L : Nat → Nat → Int64} {res : ab_Re} (v1 : Int32) (v2 : Int32) (h8 : 8 ≤ (d + 1)) (hc : nc ≤ res.2.2.2.2.2.1) (hs : ns ≤ res.2.2.2.2.2.2)
    (h : ((ab_C w d mt_K_needCable [.ref kx, .int v1] (I, L, ab_RR, n, nc, ns) (.inl none, (I, L, ab_RR, n, nc, ns)) ∧ ((v2 < 0 → (ab_E w (d + 1) mt_K_fits 14 [.ref kx, .int v1, .int v2, .null, .null, .null] [] (I, L, ab_RR, n, nc, ns) res)) ∧ (¬ v2 < 0 → ((v2 ≤ 1 → ((ab_C w d mt_K_needSound [.ref kx, .int v1] (I, L, ab_RR, n, nc, ns) (.inl none, (I, L, ab_RR, n, nc, ns)) ∧ (∃ (r5 : Int32), ab_C w d mt_K_barOf [.ref kx, .int v1] (I, L, ab_RR, n, nc, ns) (.inl (some (.int r5)), (I, L, ab_RR, n, nc, ns)) ∧ ∃ (r6 : Int32), ab_C w d mt_K_netWith [.ref kx, .int v1] (I, L, ab_RR, n, nc, ns) (.inl (some (.int r6)), (I, L, ab_RR, n, nc, ns)) ∧ ∃ (r7 : Int32), ab_C w d mt_State_fitsNoted [.ref kx_now, .int r6] (I, L, ab_RR, n, nc, ns) (.inl (some (.int r7)), (I, L, ab_RR, n, nc, ns)) ∧ ((r7 = 0 → (ab_E w (d + 1) mt_K_fits 57 [.ref kx, .int v1, .int v2, .int (ab_max32 r5 0), .null, .null] [.int 0] (I, L, ab_RR, n, nc, ns) res)) ∧ (¬ r7 = 0 → (ab_E w (d + 1) mt_K_fits 57 [.ref kx, .int v1, .int v2, .int (ab_max32 r5 0), .null, .null] [.int (ab_max32 r5 0)] (I, L, ab_RR, n, nc, ns) res))))) ∨ (∃ E : String, ab_C w d mt_K_needSound [.ref kx, .int v1] (I, L, ab_RR, n, nc, ns) (.inr E, (I, L, ab_RR, n, nc + 1, ns + 6)) ∧ res = (.inr E, (I, L, ab_RR, n, nc + 1, ns + 6))))) ∧ (¬ v2 ≤ 1 → (ab_E w (d + 1) mt_K_fits 14 [.ref kx, .int v1, .int v2, .null, .null, .null] [] (I, L, ab_RR, n, nc, ns) res)))))) ∨ (∃ E : String, ab_C w d mt_K_needCable [.ref kx, .int v1] (I, L, ab_RR, n, nc, ns) (.inr E, (I, L, ab_RR, n, nc + 1, ns + 6)) ∧ res = (.inr E, (I, L, ab_RR, n, nc + 1, ns + 6))))) : ab_E w (d + 1) mt_K_fits 0 [.ref kx, .int v1, .int v2, .null, .null, .null] [] (I, L, ab_RR, n, nc, ns) res := by
  refine ab_aload_n (i := 0) d_K_fits_0 rfl rfl ?_
  refine ab_iload_n (i := 1) d_K_fits_1 rfl rfl ?_
  rcases h with ⟨hC, h⟩ | ⟨E9, hC, h⟩
  · refine ab_callV (me2 := mt_K_needCable) (b := kx) (as := [.int v1]) (st := []) (rv := none) (M2 := (I, L, ab_RR, n, nc, ns)) d_K_fits_2 ce_K_needCable v_1071 v_1073 v_43 (by decide) rfl (Nat.le_of_ble_eq_true rfl) hC (Nat.le_refl _) (Nat.le_refl _) hc hs (fun j h9 => by cases h9) (fun _ _ => rfl) ?_
    show ab_E w (d + 1) mt_K_fits 5 [.ref kx, .int v1, .int v2, .null, .null, .null] [] (I, L, ab_RR, n, nc, ns) res
    refine ab_iload_n (i := 2) d_K_fits_5 rfl rfl ?_
    refine ab_if_lt (tgt := 14) d_K_fits_6 (by decide) (fun c2 => ?_) (fun c2 => ?_)
    · have h := h.1 c2
      exact h
    · have h := h.2 c2
      refine ab_iload_n (i := 2) d_K_fits_9 rfl rfl ?_
      refine ab_iconst (v := 1) d_K_fits_10 rfl ?_
      refine ab_icmp_le (tgt := 22) d_K_fits_11 (by decide) (fun c3 => ?_) (fun c3 => ?_)
      · have h := h.1 c3
        refine ab_aload_n (i := 0) d_K_fits_22 rfl rfl ?_
        refine ab_iload_n (i := 1) d_K_fits_23 rfl rfl ?_
        rcases h with ⟨hC, h⟩ | ⟨E9, hC, h⟩
        · refine ab_callV (me2 := mt_K_needSound) (b := kx) (as := [.int v1]) (st := []) (rv := none) (M2 := (I, L, ab_RR, n, nc, ns)) d_K_fits_24 ce_K_needSound v_1297 v_1299 v_61 (by decide) rfl (Nat.le_of_ble_eq_true rfl) hC (Nat.le_refl _) (Nat.le_refl _) hc hs (fun j h9 => by cases h9) (fun _ _ => rfl) ?_
          show ab_E w (d + 1) mt_K_fits 27 [.ref kx, .int v1, .int v2, .null, .null, .null] [] (I, L, ab_RR, n, nc, ns) res
          refine ab_aload_n (i := 0) d_K_fits_27 rfl rfl ?_
          refine ab_iload_n (i := 1) d_K_fits_28 rfl rfl ?_
          obtain ⟨r5, hC, h⟩ := h
          refine ab_callV (me2 := mt_K_barOf) (b := kx) (as := [.int v1]) (st := []) (rv := (some (.int r5))) (M2 := (I, L, ab_RR, n, nc, ns)) d_K_fits_29 ce_K_barOf v_1087 v_1089 v_46 (by decide) rfl (Nat.le_of_ble_eq_true rfl) hC (Nat.le_refl _) (Nat.le_refl _) hc hs (fun j h9 => by cases h9) (fun _ _ => rfl) ?_
          show ab_E w (d + 1) mt_K_fits 32 [.ref kx, .int v1, .int v2, .null, .null, .null] [.int r5] (I, L, ab_RR, n, nc, ns) res
          refine ab_iconst (v := 0) d_K_fits_32 rfl ?_
          refine ab_max d_K_fits_33 v_450 v_451 v_150 v_452 (Nat.succ_le_succ (Nat.zero_le _)) (Nat.le_of_ble_eq_true rfl) hc hs ?_
          refine ab_istore_n (i := 3) d_K_fits_36 rfl (by decide) (Or.inr rfl) ?_
          refine ab_aload_n (i := 0) d_K_fits_37 rfl rfl ?_
          refine ab_getR (ci := 10) (k := 3) (j := kx_now) d_K_fits_38 v_475 rfl (by decide) (by decide) rfl r_kx_3 ?_
          refine ab_aload_n (i := 0) d_K_fits_41 rfl rfl ?_
          refine ab_iload_n (i := 1) d_K_fits_42 rfl rfl ?_
          obtain ⟨r6, hC, h⟩ := h
          refine ab_callV (me2 := mt_K_netWith) (b := kx) (as := [.int v1]) (st := [.ref kx_now]) (rv := (some (.int r6))) (M2 := (I, L, ab_RR, n, nc, ns)) d_K_fits_43 ce_K_netWith v_1316 v_1318 v_62 (by decide) rfl (Nat.le_of_ble_eq_true rfl) hC (Nat.le_refl _) (Nat.le_refl _) hc hs (fun j h9 => by cases h9) (fun _ _ => rfl) ?_
          show ab_E w (d + 1) mt_K_fits 46 [.ref kx, .int v1, .int v2, .int (ab_max32 r5 0), .null, .null] [.int r6, .ref kx_now] (I, L, ab_RR, n, nc, ns) res
          obtain ⟨r7, hC, h⟩ := h
          refine ab_callV (me2 := mt_State_fitsNoted) (b := kx_now) (as := [.int r6]) (st := []) (rv := (some (.int r7))) (M2 := (I, L, ab_RR, n, nc, ns)) d_K_fits_46 ce_State_fitsNoted v_1324 v_1325 v_1326 (by decide) rfl (Nat.le_of_ble_eq_true rfl) hC (Nat.le_refl _) (Nat.le_refl _) hc hs (fun j h9 => by cases h9) (fun _ _ => rfl) ?_
          show ab_E w (d + 1) mt_K_fits 49 [.ref kx, .int v1, .int v2, .int (ab_max32 r5 0), .null, .null] [.int r7] (I, L, ab_RR, n, nc, ns) res
          refine ab_if_eq (tgt := 56) d_K_fits_49 (by decide) (fun c8 => ?_) (fun c8 => ?_)
          · have h := h.1 c8
            refine ab_iconst (v := 0) d_K_fits_56 rfl ?_
            exact h
          · have h := h.2 c8
            refine ab_iload_n (i := 3) d_K_fits_52 rfl rfl ?_
            refine ab_goto (tgt := 57) d_K_fits_53 (by decide) ?_
            exact h
        · exact ab_callVX (me2 := mt_K_needSound) (b := kx) (as := [.int v1]) (st := []) (M2 := (I, L, ab_RR, n, nc + 1, ns + 6)) rfl d_K_fits_24 ce_K_needSound v_1297 v_1299 v_61 (by decide) rfl (Nat.le_of_ble_eq_true rfl) hC (Nat.le_succ _) (Nat.le_add_right _ _) (fun _ _ => rfl) h
      · have h := h.2 c3
        exact h
  · exact ab_callVX (me2 := mt_K_needCable) (b := kx) (as := [.int v1]) (st := []) (M2 := (I, L, ab_RR, n, nc + 1, ns + 6)) rfl d_K_fits_2 ce_K_needCable v_1071 v_1073 v_43 (by decide) rfl (Nat.le_of_ble_eq_true rfl) hC (Nat.le_succ _) (Nat.le_add_right _ _) (fun _ _ => rfl) h
theorem q_K_fits_14 {w : ab_Wd} {d n nc ns : Nat} {I : Nat → Nat → Int32} {L : Nat → Nat → Int64} {res : ab_Re} (v1 : Int32) (v2 : Int32) (h8 : 8 ≤ (d + 1)) (hc : nc ≤ res.2.2.2.2.2.1) (hs : ns ≤ res.2.2.2.2.2.2)
    (h : res = (.inr "java/util/NoSuchElementException", (I, L, ab_RR, n, nc + 1, ns + 6))) : ab_E w (d + 1) mt_K_fits 14 [.ref kx, .int v1, .int v2, .null, .null, .null] [] (I, L, ab_RR, n, nc, ns) res := by
  exact ab_throw (E := "java/util/NoSuchElementException") d_K_fits_14 d_K_fits_17 d_K_fits_18 d_K_fits_21 (by decide +kernel) rfl v_1049 v_163 x3_K_185 x4_K_185 h8 (Nat.le_of_ble_eq_true rfl) h
theorem q_K_fits_57 {w : ab_Wd} {d n nc ns : Nat} {I : Nat → Nat → Int32} {L : Nat → Nat → Int64} {res : ab_Re} (v1 : Int32) (v2 : Int32) (v3 : Int32) (s0 : Int32) (h8 : 8 ≤ (d + 1)) (hc : nc ≤ res.2.2.2.2.2.1) (hs : ns ≤ res.2.2.2.2.2.2)
    (h : ∃ (r1 : Int32), ab_C w d mt_K_netWithout [.ref kx, .int v1] (I, L, ab_RR, n, nc, ns) (.inl (some (.int r1)), (I, L, ab_RR, n, nc, ns)) ∧ ∃ (r2 : Int32), ab_C w d mt_State_fitsNoted [.ref kx_now, .int r1] (I, L, ab_RR, n, nc, ns) (.inl (some (.int r2)), (I, L, ab_RR, n, nc, ns)) ∧ ((r2 = 0 → (ab_E w (d + 1) mt_K_fits 83 [.ref kx, .int v1, .int v2, .int v3, .int s0, .null] [.int 0] (I, L, ab_RR, n, nc, ns) res)) ∧ (¬ r2 = 0 → (ab_E w (d + 1) mt_K_fits 83 [.ref kx, .int v1, .int v2, .int v3, .int s0, .null] [.int (999 - v3)] (I, L, ab_RR, n, nc, ns) res)))) : ab_E w (d + 1) mt_K_fits 57 [.ref kx, .int v1, .int v2, .int v3, .null, .null] [.int s0] (I, L, ab_RR, n, nc, ns) res := by
  refine ab_istore (i := 4) d_K_fits_57 (by decide) (Or.inr rfl) ?_
  refine ab_aload_n (i := 0) d_K_fits_59 rfl rfl ?_
  refine ab_getR (ci := 10) (k := 3) (j := kx_now) d_K_fits_60 v_475 rfl (by decide) (by decide) rfl r_kx_3 ?_
  refine ab_aload_n (i := 0) d_K_fits_63 rfl rfl ?_
  refine ab_iload_n (i := 1) d_K_fits_64 rfl rfl ?_
  obtain ⟨r1, hC, h⟩ := h
  refine ab_callV (me2 := mt_K_netWithout) (b := kx) (as := [.int v1]) (st := [.ref kx_now]) (rv := (some (.int r1))) (M2 := (I, L, ab_RR, n, nc, ns)) d_K_fits_65 ce_K_netWithout v_1328 v_1330 v_64 (by decide) rfl (Nat.le_of_ble_eq_true rfl) hC (Nat.le_refl _) (Nat.le_refl _) hc hs (fun j h9 => by cases h9) (fun _ _ => rfl) ?_
  show ab_E w (d + 1) mt_K_fits 68 [.ref kx, .int v1, .int v2, .int v3, .int s0, .null] [.int r1, .ref kx_now] (I, L, ab_RR, n, nc, ns) res
  obtain ⟨r2, hC, h⟩ := h
  refine ab_callV (me2 := mt_State_fitsNoted) (b := kx_now) (as := [.int r1]) (st := []) (rv := (some (.int r2))) (M2 := (I, L, ab_RR, n, nc, ns)) d_K_fits_68 ce_State_fitsNoted v_1324 v_1325 v_1326 (by decide) rfl (Nat.le_of_ble_eq_true rfl) hC (Nat.le_refl _) (Nat.le_refl _) hc hs (fun j h9 => by cases h9) (fun _ _ => rfl) ?_
  show ab_E w (d + 1) mt_K_fits 71 [.ref kx, .int v1, .int v2, .int v3, .int s0, .null] [.int r2] (I, L, ab_RR, n, nc, ns) res
  refine ab_if_eq (tgt := 82) d_K_fits_71 (by decide) (fun c3 => ?_) (fun c3 => ?_)
  · have h := h.1 c3
    refine ab_iconst (v := 0) d_K_fits_82 rfl ?_
    exact h
  · have h := h.2 c3
    refine ab_sipush (v := 999) d_K_fits_74 rfl ?_
    refine ab_iload_n (i := 3) d_K_fits_77 rfl rfl ?_
    refine ab_isub d_K_fits_78 ?_
    refine ab_goto (tgt := 83) d_K_fits_79 (by decide) ?_
    exact h
theorem q_K_fits_83 {w : ab_Wd} {d n nc ns : Nat} {I : Nat → Nat → Int32} {L : Nat → Nat → Int64} {res : ab_Re} (v1 : Int32) (v2 : Int32) (v3 : Int32) (v4 : Int32) (s0 : Int32) (h8 : 8 ≤ (d + 1)) (hc : nc ≤ res.2.2.2.2.2.1) (hs : ns ≤ res.2.2.2.2.2.2)
    (h : ((¬ v2 = 0 → ((v4 ≤ 0 → ((s0 ≤ 0 → (ab_E w (d + 1) mt_K_fits 114 [.ref kx, .int v1, .int v2, .int v3, .int v4, .int s0] [.int (-1)] (I, L, ab_RR, n, nc, ns) res)) ∧ (¬ s0 ≤ 0 → (ab_E w (d + 1) mt_K_fits 114 [.ref kx, .int v1, .int v2, .int v3, .int v4, .int s0] [.int (v3 + 1)] (I, L, ab_RR, n, nc, ns) res)))) ∧ (¬ v4 ≤ 0 → (res = (.inl (some (.int 1)), (I, L, ab_RR, n, nc, ns)))))) ∧ (v2 = 0 → (res = (.inl (some (.int (v4 + s0))), (I, L, ab_RR, n, nc, ns)))))) : ab_E w (d + 1) mt_K_fits 83 [.ref kx, .int v1, .int v2, .int v3, .int v4, .null] [.int s0] (I, L, ab_RR, n, nc, ns) res := by
  refine ab_istore (i := 5) d_K_fits_83 (by decide) (Or.inr rfl) ?_
  refine ab_iload_n (i := 2) d_K_fits_85 rfl rfl ?_
  refine ab_if_ne (tgt := 95) d_K_fits_86 (by decide) (fun c1 => ?_) (fun c1 => ?_)
  · have h := h.1 c1
    refine ab_iload (i := 4) d_K_fits_95 rfl ?_
    refine ab_if_le (tgt := 102) d_K_fits_97 (by decide) (fun c2 => ?_) (fun c2 => ?_)
    · have h := h.1 c2
      refine ab_iload (i := 5) d_K_fits_102 rfl ?_
      refine ab_if_le (tgt := 113) d_K_fits_104 (by decide) (fun c3 => ?_) (fun c3 => ?_)
      · have h := h.1 c3
        refine ab_iconst (v := (-1)) d_K_fits_113 rfl ?_
        exact h
      · have h := h.2 c3
        refine ab_iload_n (i := 3) d_K_fits_107 rfl rfl ?_
        refine ab_iconst (v := 1) d_K_fits_108 rfl ?_
        refine ab_iadd d_K_fits_109 ?_
        refine ab_goto (tgt := 114) d_K_fits_110 (by decide) ?_
        exact h
    · have h := h.2 c2
      refine ab_iconst (v := 1) d_K_fits_100 rfl ?_
      exact ab_iret (ty := .int) d_K_fits_101 rfl rfl h
  · have h := h.2 c1
    refine ab_iload (i := 4) d_K_fits_89 rfl ?_
    refine ab_iload (i := 5) d_K_fits_91 rfl ?_
    refine ab_iadd d_K_fits_93 ?_
    exact ab_iret (ty := .int) d_K_fits_94 rfl rfl h
theorem q_K_fits_114 {w : ab_Wd} {d n nc ns : Nat} {I : Nat → Nat → Int32} {L : Nat → Nat → Int64} {res : ab_Re} (v1 : Int32) (v2 : Int32) (v3 : Int32) (v4 : Int32) (v5 : Int32) (s0 : Int32) (h8 : 8 ≤ (d + 1)) (hc : nc ≤ res.2.2.2.2.2.1) (hs : ns ≤ res.2.2.2.2.2.2)
    (h : res = (.inl (some (.int s0)), (I, L, ab_RR, n, nc, ns))) : ab_E w (d + 1) mt_K_fits 114 [.ref kx, .int v1, .int v2, .int v3, .int v4, .int v5] [.int s0] (I, L, ab_RR, n, nc, ns) res := by
  exact ab_iret (ty := .int) d_K_fits_114 rfl rfl h
