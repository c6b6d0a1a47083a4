theorem d_K_ring_0 : decode (ab_bc mt_K_ring) 0 = .ok (.aload_n 0, 1) := by decide +kernel
theorem d_K_ring_1 : decode (ab_bc mt_K_ring) 1 = .ok (.iload_n 1, 1) := by decide +kernel
theorem d_K_ring_2 : decode (ab_bc mt_K_ring) 2 = .ok (.invokevirtual 186, 3) := by decide +kernel
theorem d_K_ring_5 : decode (ab_bc mt_K_ring) 5 = .ok (.iload_n 2, 1) := by decide +kernel
theorem d_K_ring_6 : decode (ab_bc mt_K_ring) 6 = .ok (.ifCond .lt 12, 3) := by decide +kernel
theorem d_K_ring_9 : decode (ab_bc mt_K_ring) 9 = .ok (.iload_n 2, 1) := by decide +kernel
theorem d_K_ring_10 : decode (ab_bc mt_K_ring) 10 = .ok (.aload_n 0, 1) := by decide +kernel
theorem d_K_ring_11 : decode (ab_bc mt_K_ring) 11 = .ok (.iload_n 1, 1) := by decide +kernel
theorem d_K_ring_12 : decode (ab_bc mt_K_ring) 12 = .ok (.invokevirtual 208, 3) := by decide +kernel
theorem d_K_ring_15 : decode (ab_bc mt_K_ring) 15 = .ok (.if_icmp .lt 11, 3) := by decide +kernel
theorem d_K_ring_18 : decode (ab_bc mt_K_ring) 18 = .ok (.new 183, 3) := by decide +kernel
theorem d_K_ring_21 : decode (ab_bc mt_K_ring) 21 = .ok (.dup, 1) := by decide +kernel
theorem d_K_ring_22 : decode (ab_bc mt_K_ring) 22 = .ok (.invokespecial 185, 3) := by decide +kernel
theorem d_K_ring_25 : decode (ab_bc mt_K_ring) 25 = .ok (.athrow, 1) := by decide +kernel
theorem d_K_ring_26 : decode (ab_bc mt_K_ring) 26 = .ok (.aload_n 0, 1) := by decide +kernel
theorem d_K_ring_27 : decode (ab_bc mt_K_ring) 27 = .ok (.getfield 23, 3) := by decide +kernel
theorem d_K_ring_30 : decode (ab_bc mt_K_ring) 30 = .ok (.getfield 110, 3) := by decide +kernel
theorem d_K_ring_33 : decode (ab_bc mt_K_ring) 33 = .ok (.getfield 192, 3) := by decide +kernel
theorem d_K_ring_36 : decode (ab_bc mt_K_ring) 36 = .ok (.iload_n 1, 1) := by decide +kernel
theorem d_K_ring_37 : decode (ab_bc mt_K_ring) 37 = .ok (.iaload, 1) := by decide +kernel
theorem d_K_ring_38 : decode (ab_bc mt_K_ring) 38 = .ok (.istore_n 3, 1) := by decide +kernel
theorem d_K_ring_39 : decode (ab_bc mt_K_ring) 39 = .ok (.aload_n 0, 1) := by decide +kernel
theorem d_K_ring_40 : decode (ab_bc mt_K_ring) 40 = .ok (.getfield 23, 3) := by decide +kernel
theorem d_K_ring_43 : decode (ab_bc mt_K_ring) 43 = .ok (.getfield 110, 3) := by decide +kernel
theorem d_K_ring_46 : decode (ab_bc mt_K_ring) 46 = .ok (.getfield 189, 3) := by decide +kernel
theorem d_K_ring_49 : decode (ab_bc mt_K_ring) 49 = .ok (.iload_n 1, 1) := by decide +kernel
theorem d_K_ring_50 : decode (ab_bc mt_K_ring) 50 = .ok (.iaload, 1) := by decide +kernel
theorem d_K_ring_51 : decode (ab_bc mt_K_ring) 51 = .ok (.istore 4, 2) := by decide +kernel
theorem d_K_ring_53 : decode (ab_bc mt_K_ring) 53 = .ok (.aload_n 0, 1) := by decide +kernel
theorem d_K_ring_54 : decode (ab_bc mt_K_ring) 54 = .ok (.getfield 44, 3) := by decide +kernel
theorem d_K_ring_57 : decode (ab_bc mt_K_ring) 57 = .ok (.iload 4, 2) := by decide +kernel
theorem d_K_ring_59 : decode (ab_bc mt_K_ring) 59 = .ok (.iload_n 3, 1) := by decide +kernel
theorem d_K_ring_60 : decode (ab_bc mt_K_ring) 60 = .ok (.invokevirtual 226, 3) := by decide +kernel
theorem d_K_ring_63 : decode (ab_bc mt_K_ring) 63 = .ok (.istore 5, 2) := by decide +kernel
theorem d_K_ring_65 : decode (ab_bc mt_K_ring) 65 = .ok (.iconst 0, 1) := by decide +kernel
theorem d_K_ring_66 : decode (ab_bc mt_K_ring) 66 = .ok (.istore 6, 2) := by decide +kernel
theorem d_K_ring_68 : decode (ab_bc mt_K_ring) 68 = .ok (.iload 6, 2) := by decide +kernel
theorem d_K_ring_70 : decode (ab_bc mt_K_ring) 70 = .ok (.iload_n 2, 1) := by decide +kernel
theorem d_K_ring_71 : decode (ab_bc mt_K_ring) 71 = .ok (.if_icmp .ge 43, 3) := by decide +kernel
theorem d_K_ring_74 : decode (ab_bc mt_K_ring) 74 = .ok (.iload 5, 2) := by decide +kernel
theorem d_K_ring_76 : decode (ab_bc mt_K_ring) 76 = .ok (.iconst (-1), 1) := by decide +kernel
theorem d_K_ring_77 : decode (ab_bc mt_K_ring) 77 = .ok (.if_icmp .eq 37, 3) := by decide +kernel
theorem d_K_ring_80 : decode (ab_bc mt_K_ring) 80 = .ok (.aload_n 0, 1) := by decide +kernel
theorem d_K_ring_81 : decode (ab_bc mt_K_ring) 81 = .ok (.getfield 23, 3) := by decide +kernel
theorem d_K_ring_84 : decode (ab_bc mt_K_ring) 84 = .ok (.getfield 110, 3) := by decide +kernel
theorem d_K_ring_87 : decode (ab_bc mt_K_ring) 87 = .ok (.iload 5, 2) := by decide +kernel
theorem d_K_ring_89 : decode (ab_bc mt_K_ring) 89 = .ok (.iload 4, 2) := by decide +kernel
theorem d_K_ring_91 : decode (ab_bc mt_K_ring) 91 = .ok (.invokevirtual 230, 3) := by decide +kernel
theorem d_K_ring_94 : decode (ab_bc mt_K_ring) 94 = .ok (.istore 4, 2) := by decide +kernel
theorem d_K_ring_96 : decode (ab_bc mt_K_ring) 96 = .ok (.aload_n 0, 1) := by decide +kernel
theorem d_K_ring_97 : decode (ab_bc mt_K_ring) 97 = .ok (.getfield 44, 3) := by decide +kernel
theorem d_K_ring_100 : decode (ab_bc mt_K_ring) 100 = .ok (.iload 4, 2) := by decide +kernel
theorem d_K_ring_102 : decode (ab_bc mt_K_ring) 102 = .ok (.iload_n 3, 1) := by decide +kernel
theorem d_K_ring_103 : decode (ab_bc mt_K_ring) 103 = .ok (.invokevirtual 226, 3) := by decide +kernel
theorem d_K_ring_106 : decode (ab_bc mt_K_ring) 106 = .ok (.istore 5, 2) := by decide +kernel
theorem d_K_ring_108 : decode (ab_bc mt_K_ring) 108 = .ok (.iinc 6 1, 3) := by decide +kernel
theorem d_K_ring_111 : decode (ab_bc mt_K_ring) 111 = .ok (.goto (-43), 3) := by decide +kernel
theorem d_K_ring_114 : decode (ab_bc mt_K_ring) 114 = .ok (.iload 5, 2) := by decide +kernel
theorem d_K_ring_116 : decode (ab_bc mt_K_ring) 116 = .ok (.ireturn, 1) := by decide +kernel
-- CableKeeper.ring(II)I over kx
theorem q_K_ring_0 {w : ab_Wd} {d n nc ns : Nat} {I : Nat → Nat → Int32} {L : Nat → Nat → Int64} {res : ab_Re} (v1 : Int32) (v2 : Int32) (h8 : 8 ≤ (d + 1)) (hc : nc ≤ res.2.2.2.2.2.1) (hs : ns ≤ res.2.2.2.2.2.2)
    (h : ((ab_C w d mt_K_needCable [.ref kx, .int v1] (I, L, ab_RR, n, nc, ns) (.inl none, (I, L, ab_RR, n, nc, ns)) ∧ ((v2 < 0 → (ab_E w (d + 1) mt_K_ring 18 [.ref kx, .int v1, .int v2, .null, .null, .null, .null] [] (I, L, ab_RR, n, nc, ns) res)) ∧ (¬ v2 < 0 → (∃ (r3 : Int32), ab_C w d mt_K_ringSize [.ref kx, .int v1] (I, L, ab_RR, n, nc, ns) (.inl (some (.int r3)), (I, L, ab_RR, n, nc, ns)) ∧ ((v2 < r3 → ((vp_in v1 24) ∧ ∃ (r6 : Int32), ab_C w d mt_Ways_firstCable [.ref kx_ways, .int (I kx_now_cables_first v1.toNatClampNeg), .int (I kx_now_cables_second v1.toNatClampNeg)] (I, L, ab_RR, n, nc, ns) (.inl (some (.int r6)), (I, L, ab_RR, n, nc, ns)) ∧ ab_E w (d + 1) mt_K_ring 68 [.ref kx, .int v1, .int v2, .int (I kx_now_cables_second v1.toNatClampNeg), .int (I kx_now_cables_first v1.toNatClampNeg), .int r6, .int 0] [] (I, L, ab_RR, n, nc, ns) res)) ∧ (¬ v2 < r3 → (ab_E w (d + 1) mt_K_ring 18 [.ref kx, .int v1, .int v2, .null, .null, .null, .null] [] (I, L, ab_RR, n, nc, ns) res))))))) ∨ (∃ E : String, ab_C w d mt_K_needCable [.ref kx, .int v1] (I, L, ab_RR, n, nc, ns) (.inr E, (I, L, ab_RR, n, nc + 1, ns + 6)) ∧ res = (.inr E, (I, L, ab_RR, n, nc + 1, ns + 6))))) : ab_E w (d + 1) mt_K_ring 0 [.ref kx, .int v1, .int v2, .null, .null, .null, .null] [] (I, L, ab_RR, n, nc, ns) res := by
  refine ab_aload_n (i := 0) d_K_ring_0 rfl rfl ?_
  refine ab_iload_n (i := 1) d_K_ring_1 rfl rfl ?_
  rcases h with ⟨hC, h⟩ | ⟨E9, hC, h⟩
  · refine ab_callV (me2 := mt_K_needCable) (b := kx) (as := [.int v1]) (st := []) (rv := none) (M2 := (I, L, ab_RR, n, nc, ns)) d_K_ring_2 ce_K_needCable v_1071 v_1073 v_43 (by decide) rfl (Nat.le_of_ble_eq_true rfl) hC (Nat.le_refl _) (Nat.le_refl _) hc hs (fun j h9 => by cases h9) (fun _ _ => rfl) ?_
    show ab_E w (d + 1) mt_K_ring 5 [.ref kx, .int v1, .int v2, .null, .null, .null, .null] [] (I, L, ab_RR, n, nc, ns) res
    refine ab_iload_n (i := 2) d_K_ring_5 rfl rfl ?_
    refine ab_if_lt (tgt := 18) d_K_ring_6 (by decide) (fun c2 => ?_) (fun c2 => ?_)
    · have h := h.1 c2
      exact h
    · have h := h.2 c2
      refine ab_iload_n (i := 2) d_K_ring_9 rfl rfl ?_
      refine ab_aload_n (i := 0) d_K_ring_10 rfl rfl ?_
      refine ab_iload_n (i := 1) d_K_ring_11 rfl rfl ?_
      obtain ⟨r3, hC, h⟩ := h
      refine ab_callV (me2 := mt_K_ringSize) (b := kx) (as := [.int v1]) (st := [.int v2]) (rv := (some (.int r3))) (M2 := (I, L, ab_RR, n, nc, ns)) d_K_ring_12 ce_K_ringSize v_1075 v_1077 v_44 (by decide) rfl (Nat.le_of_ble_eq_true rfl) hC (Nat.le_refl _) (Nat.le_refl _) hc hs (fun j h9 => by cases h9) (fun _ _ => rfl) ?_
      show ab_E w (d + 1) mt_K_ring 15 [.ref kx, .int v1, .int v2, .null, .null, .null, .null] [.int r3, .int v2] (I, L, ab_RR, n, nc, ns) res
      refine ab_icmp_lt (tgt := 26) d_K_ring_15 (by decide) (fun c4 => ?_) (fun c4 => ?_)
      · have h := h.1 c4
        refine ab_aload_n (i := 0) d_K_ring_26 rfl rfl ?_
        refine ab_getR (ci := 10) (k := 3) (j := kx_now) d_K_ring_27 v_475 rfl (by decide) (by decide) rfl r_kx_3 ?_
        refine ab_getR (ci := 6) (k := 0) (j := kx_now_cables) d_K_ring_30 v_294 rfl (by decide) (by decide) rfl r_kx_now_0 ?_
        refine ab_getR (ci := 1) (k := 4) (j := kx_now_cables_second) d_K_ring_33 v_216 rfl (by decide) (by decide) rfl r_kx_now_cables_4 ?_
        refine ab_iload_n (i := 1) d_K_ring_36 rfl rfl ?_
        have g5 := h.1; have h := h.2
        refine ab_iald d_K_ring_37 rfl rfl g5 ?_
        refine ab_istore_n (i := 3) d_K_ring_38 rfl (by decide) (Or.inr rfl) ?_
        refine ab_aload_n (i := 0) d_K_ring_39 rfl rfl ?_
        refine ab_getR (ci := 10) (k := 3) (j := kx_now) d_K_ring_40 v_475 rfl (by decide) (by decide) rfl r_kx_3 ?_
        refine ab_getR (ci := 6) (k := 0) (j := kx_now_cables) d_K_ring_43 v_294 rfl (by decide) (by decide) rfl r_kx_now_0 ?_
        refine ab_getR (ci := 1) (k := 3) (j := kx_now_cables_first) d_K_ring_46 v_209 rfl (by decide) (by decide) rfl r_kx_now_cables_3 ?_
        refine ab_iload_n (i := 1) d_K_ring_49 rfl rfl ?_
        refine ab_iald d_K_ring_50 rfl rfl g5 ?_
        refine ab_istore (i := 4) d_K_ring_51 (by decide) (Or.inr rfl) ?_
        refine ab_aload_n (i := 0) d_K_ring_53 rfl rfl ?_
        refine ab_getR (ci := 10) (k := 7) (j := kx_ways) d_K_ring_54 v_479 rfl (by decide) (by decide) rfl r_kx_7 ?_
        refine ab_iload (i := 4) d_K_ring_57 rfl ?_
        refine ab_iload_n (i := 3) d_K_ring_59 rfl rfl ?_
        obtain ⟨r6, hC, h⟩ := h
        refine ab_callV (me2 := mt_Ways_firstCable) (b := kx_ways) (as := [.int (I kx_now_cables_first v1.toNatClampNeg), .int (I kx_now_cables_second v1.toNatClampNeg)]) (st := []) (rv := (some (.int r6))) (M2 := (I, L, ab_RR, n, nc, ns)) d_K_ring_60 ce_Ways_firstCable v_1004 v_1005 v_1006 (by decide) rfl (Nat.le_of_ble_eq_true rfl) hC (Nat.le_refl _) (Nat.le_refl _) hc hs (fun j h9 => by cases h9) (fun _ _ => rfl) ?_
        show ab_E w (d + 1) mt_K_ring 63 [.ref kx, .int v1, .int v2, .int (I kx_now_cables_second v1.toNatClampNeg), .int (I kx_now_cables_first v1.toNatClampNeg), .null, .null] [.int r6] (I, L, ab_RR, n, nc, ns) res
        refine ab_istore (i := 5) d_K_ring_63 (by decide) (Or.inr rfl) ?_
        refine ab_iconst (v := 0) d_K_ring_65 rfl ?_
        refine ab_istore (i := 6) d_K_ring_66 (by decide) (Or.inr rfl) ?_
        exact h
      · have h := h.2 c4
        exact h
  · exact ab_callVX (me2 := mt_K_needCable) (b := kx) (as := [.int v1]) (st := []) (M2 := (I, L, ab_RR, n, nc + 1, ns + 6)) rfl d_K_ring_2 ce_K_needCable v_1071 v_1073 v_43 (by decide) rfl (Nat.le_of_ble_eq_true rfl) hC (Nat.le_succ _) (Nat.le_add_right _ _) (fun _ _ => rfl) h
theorem q_K_ring_18 {w : ab_Wd} {d n nc ns : Nat} {I : Nat → Nat → Int32} {L : Nat → Nat → Int64} {res : ab_Re} (v1 : Int32) (v2 : Int32) (h8 : 8 ≤ (d + 1)) (hc : nc ≤ res.2.2.2.2.2.1) (hs : ns ≤ res.2.2.2.2.2.2)
    (h : res = (.inr "java/util/NoSuchElementException", (I, L, ab_RR, n, nc + 1, ns + 6))) : ab_E w (d + 1) mt_K_ring 18 [.ref kx, .int v1, .int v2, .null, .null, .null, .null] [] (I, L, ab_RR, n, nc, ns) res := by
  exact ab_throw (E := "java/util/NoSuchElementException") d_K_ring_18 d_K_ring_21 d_K_ring_22 d_K_ring_25 (by decide +kernel) rfl v_1049 v_163 x3_K_185 x4_K_185 h8 (Nat.le_of_ble_eq_true rfl) h
theorem q_K_ring_68 {w : ab_Wd} {d n nc ns : Nat} {I : Nat → Nat → Int32} {L : Nat → Nat → Int64} {res : ab_Re} (v1 : Int32) (v2 : Int32) (v3 : Int32) (v4 : Int32) (v5 : Int32) (v6 : Int32) (h8 : 8 ≤ (d + 1)) (hc : nc ≤ res.2.2.2.2.2.1) (hs : ns ≤ res.2.2.2.2.2.2)
    (h : ((v2 ≤ v6 → (ab_E w (d + 1) mt_K_ring 114 [.ref kx, .int v1, .int v2, .int v3, .int v4, .int v5, .int v6] [] (I, L, ab_RR, n, nc, ns) res)) ∧ (¬ v2 ≤ v6 → ((v5 = (-1) → (ab_E w (d + 1) mt_K_ring 114 [.ref kx, .int v1, .int v2, .int v3, .int v4, .int v5, .int v6] [] (I, L, ab_RR, n, nc, ns) res)) ∧ (¬ v5 = (-1) → (∃ (r3 : Int32), ab_C w d mt_Cables_otherEnd [.ref kx_now_cables, .int v5, .int v4] (I, L, ab_RR, n, nc, ns) (.inl (some (.int r3)), (I, L, ab_RR, n, nc, ns)) ∧ ∃ (r4 : Int32), ab_C w d mt_Ways_firstCable [.ref kx_ways, .int r3, .int v3] (I, L, ab_RR, n, nc, ns) (.inl (some (.int r4)), (I, L, ab_RR, n, nc, ns)) ∧ ab_E w (d + 1) mt_K_ring 68 [.ref kx, .int v1, .int v2, .int v3, .int r3, .int r4, .int (v6 + 1)] [] (I, L, ab_RR, n, nc, ns) res)))))) : ab_E w (d + 1) mt_K_ring 68 [.ref kx, .int v1, .int v2, .int v3, .int v4, .int v5, .int v6] [] (I, L, ab_RR, n, nc, ns) res := by
  refine ab_iload (i := 6) d_K_ring_68 rfl ?_
  refine ab_iload_n (i := 2) d_K_ring_70 rfl rfl ?_
  refine ab_icmp_ge (tgt := 114) d_K_ring_71 (by decide) (fun c1 => ?_) (fun c1 => ?_)
  · have h := h.1 c1
    exact h
  · have h := h.2 c1
    refine ab_iload (i := 5) d_K_ring_74 rfl ?_
    refine ab_iconst (v := (-1)) d_K_ring_76 rfl ?_
    refine ab_icmp_eq (tgt := 114) d_K_ring_77 (by decide) (fun c2 => ?_) (fun c2 => ?_)
    · have h := h.1 c2
      exact h
    · have h := h.2 c2
      refine ab_aload_n (i := 0) d_K_ring_80 rfl rfl ?_
      refine ab_getR (ci := 10) (k := 3) (j := kx_now) d_K_ring_81 v_475 rfl (by decide) (by decide) rfl r_kx_3 ?_
      refine ab_getR (ci := 6) (k := 0) (j := kx_now_cables) d_K_ring_84 v_294 rfl (by decide) (by decide) rfl r_kx_now_0 ?_
      refine ab_iload (i := 5) d_K_ring_87 rfl ?_
      refine ab_iload (i := 4) d_K_ring_89 rfl ?_
      obtain ⟨r3, hC, h⟩ := h
      refine ab_callV (me2 := mt_Cables_otherEnd) (b := kx_now_cables) (as := [.int v5, .int v4]) (st := []) (rv := (some (.int r3))) (M2 := (I, L, ab_RR, n, nc, ns)) d_K_ring_91 ce_Cables_otherEnd v_1106 v_1107 v_1108 (by decide) rfl (Nat.le_of_ble_eq_true rfl) hC (Nat.le_refl _) (Nat.le_refl _) hc hs (fun j h9 => by cases h9) (fun _ _ => rfl) ?_
      show ab_E w (d + 1) mt_K_ring 94 [.ref kx, .int v1, .int v2, .int v3, .int v4, .int v5, .int v6] [.int r3] (I, L, ab_RR, n, nc, ns) res
      refine ab_istore (i := 4) d_K_ring_94 (by decide) (Or.inr rfl) ?_
      refine ab_aload_n (i := 0) d_K_ring_96 rfl rfl ?_
      refine ab_getR (ci := 10) (k := 7) (j := kx_ways) d_K_ring_97 v_479 rfl (by decide) (by decide) rfl r_kx_7 ?_
      refine ab_iload (i := 4) d_K_ring_100 rfl ?_
      refine ab_iload_n (i := 3) d_K_ring_102 rfl rfl ?_
      obtain ⟨r4, hC, h⟩ := h
      refine ab_callV (me2 := mt_Ways_firstCable) (b := kx_ways) (as := [.int r3, .int v3]) (st := []) (rv := (some (.int r4))) (M2 := (I, L, ab_RR, n, nc, ns)) d_K_ring_103 ce_Ways_firstCable v_1004 v_1005 v_1006 (by decide) rfl (Nat.le_of_ble_eq_true rfl) hC (Nat.le_refl _) (Nat.le_refl _) hc hs (fun j h9 => by cases h9) (fun _ _ => rfl) ?_
      show ab_E w (d + 1) mt_K_ring 106 [.ref kx, .int v1, .int v2, .int v3, .int r3, .int v5, .int v6] [.int r4] (I, L, ab_RR, n, nc, ns) res
      refine ab_istore (i := 5) d_K_ring_106 (by decide) (Or.inr rfl) ?_
      refine ab_iinc (i := 6) (v := (v6 + 1)) d_K_ring_108 rfl rfl (by decide) (Or.inr rfl) ?_
      refine ab_goto (tgt := 68) d_K_ring_111 (by decide) ?_
      exact h
theorem q_K_ring_114 {w : ab_Wd} {d n nc ns : Nat} {I : Nat → Nat → Int32} {L : Nat → Nat → Int64} {res : ab_Re} (v1 : Int32) (v2 : Int32) (v3 : Int32) (v4 : Int32) (v5 : Int32) (v6 : Int32) (h8 : 8 ≤ (d + 1)) (hc : nc ≤ res.2.2.2.2.2.1) (hs : ns ≤ res.2.2.2.2.2.2)
    (h : res = (.inl (some (.int v5)), (I, L, ab_RR, n, nc, ns))) : ab_E w (d + 1) mt_K_ring 114 [.ref kx, .int v1, .int v2, .int v3, .int v4, .int v5, .int v6] [] (I, L, ab_RR, n, nc, ns) res := by
  refine ab_iload (i := 5) d_K_ring_114 rfl ?_
  exact ab_iret (ty := .int) d_K_ring_116 rfl rfl h
theorem d_K_taken_0 : decode (ab_bc mt_K_taken) 0 = .ok (.iload_n 1, 1) := by decide +kernel
theorem d_K_taken_1 : decode (ab_bc mt_K_taken) 1 = .ok (.ifCond .lt 14, 3) := by decide +kernel
theorem d_K_taken_4 : decode (ab_bc mt_K_taken) 4 = .ok (.iload_n 1, 1) := by decide +kernel
theorem d_K_taken_5 : decode (ab_bc mt_K_taken) 5 = .ok (.aload_n 0, 1) := by decide +kernel
theorem d_K_taken_6 : decode (ab_bc mt_K_taken) 6 = .ok (.getfield 37, 3) := by decide +kernel
theorem d_K_taken_9 : decode (ab_bc mt_K_taken) 9 = .ok (.getfield 233, 3) := by decide +kernel
theorem d_K_taken_12 : decode (ab_bc mt_K_taken) 12 = .ok (.if_icmp .lt 11, 3) := by decide +kernel
theorem d_K_taken_15 : decode (ab_bc mt_K_taken) 15 = .ok (.new 183, 3) := by decide +kernel
theorem d_K_taken_18 : decode (ab_bc mt_K_taken) 18 = .ok (.dup, 1) := by decide +kernel
theorem d_K_taken_19 : decode (ab_bc mt_K_taken) 19 = .ok (.invokespecial 185, 3) := by decide +kernel
theorem d_K_taken_22 : decode (ab_bc mt_K_taken) 22 = .ok (.athrow, 1) := by decide +kernel
theorem d_K_taken_23 : decode (ab_bc mt_K_taken) 23 = .ok (.aload_n 0, 1) := by decide +kernel
theorem d_K_taken_24 : decode (ab_bc mt_K_taken) 24 = .ok (.getfield 37, 3) := by decide +kernel
theorem d_K_taken_27 : decode (ab_bc mt_K_taken) 27 = .ok (.getfield 236, 3) := by decide +kernel
theorem d_K_taken_30 : decode (ab_bc mt_K_taken) 30 = .ok (.iload_n 1, 1) := by decide +kernel
theorem d_K_taken_31 : decode (ab_bc mt_K_taken) 31 = .ok (.iaload, 1) := by decide +kernel
theorem d_K_taken_32 : decode (ab_bc mt_K_taken) 32 = .ok (.ireturn, 1) := by decide +kernel
-- CableKeeper.taken(I)I over kx
theorem q_K_taken_0 {w : ab_Wd} {d n nc ns : Nat} {I : Nat → Nat → Int32} {L : Nat → Nat → Int64} {res : ab_Re} (v1 : Int32) (h8 : 8 ≤ (d + 1)) (hc : nc ≤ res.2.2.2.2.2.1) (hs : ns ≤ res.2.2.2.2.2.2)
    (h : ((v1 < 0 → (ab_E w (d + 1) mt_K_taken 15 [.ref kx, .int v1] [] (I, L, ab_RR, n, nc, ns) res)) ∧ (¬ v1 < 0 → ((v1 < (I kx_forest 1) → ((vp_in v1 9) ∧ res = (.inl (some (.int (I kx_forest_order v1.toNatClampNeg))), (I, L, ab_RR, n, nc, ns)))) ∧ (¬ v1 < (I kx_forest 1) → (ab_E w (d + 1) mt_K_taken 15 [.ref kx, .int v1] [] (I, L, ab_RR, n, nc, ns) res)))))) : ab_E w (d + 1) mt_K_taken 0 [.ref kx, .int v1] [] (I, L, ab_RR, n, nc, ns) res := by
  refine ab_iload_n (i := 1) d_K_taken_0 rfl rfl ?_
  refine ab_if_lt (tgt := 15) d_K_taken_1 (by decide) (fun c1 => ?_) (fun c1 => ?_)
  · have h := h.1 c1
    exact h
  · have h := h.2 c1
    refine ab_iload_n (i := 1) d_K_taken_4 rfl rfl ?_
    refine ab_aload_n (i := 0) d_K_taken_5 rfl rfl ?_
    refine ab_getR (ci := 10) (k := 6) (j := kx_forest) d_K_taken_6 v_478 rfl (by decide) (by decide) rfl r_kx_6 ?_
    refine ab_getI (ci := 2) (k := 1) d_K_taken_9 v_333 rfl (by decide) (by decide) rfl ?_
    refine ab_icmp_lt (tgt := 23) d_K_taken_12 (by decide) (fun c2 => ?_) (fun c2 => ?_)
    · have h := h.1 c2
      refine ab_aload_n (i := 0) d_K_taken_23 rfl rfl ?_
      refine ab_getR (ci := 10) (k := 6) (j := kx_forest) d_K_taken_24 v_478 rfl (by decide) (by decide) rfl r_kx_6 ?_
      refine ab_getR (ci := 2) (k := 0) (j := kx_forest_order) d_K_taken_27 v_330 rfl (by decide) (by decide) rfl r_kx_forest_0 ?_
      refine ab_iload_n (i := 1) d_K_taken_30 rfl rfl ?_
      have g3 := h.1; have h := h.2
      refine ab_iald d_K_taken_31 rfl rfl g3 ?_
      exact ab_iret (ty := .int) d_K_taken_32 rfl rfl h
    · have h := h.2 c2
      exact h
theorem q_K_taken_15 {w : ab_Wd} {d n nc ns : Nat} {I : Nat → Nat → Int32} {L : Nat → Nat → Int64} {res : ab_Re} (v1 : Int32) (h8 : 8 ≤ (d + 1)) (hc : nc ≤ res.2.2.2.2.2.1) (hs : ns ≤ res.2.2.2.2.2.2)
    (h : res = (.inr "java/util/NoSuchElementException", (I, L, ab_RR, n, nc + 1, ns + 6))) : ab_E w (d + 1) mt_K_taken 15 [.ref kx, .int v1] [] (I, L, ab_RR, n, nc, ns) res := by
  exact ab_throw (E := "java/util/NoSuchElementException") d_K_taken_15 d_K_taken_18 d_K_taken_19 d_K_taken_22 (by decide +kernel) rfl v_1049 v_163 x3_K_185 x4_K_185 h8 (Nat.le_of_ble_eq_true rfl) h
theorem d_K_site_0 : decode (ab_bc mt_K_site) 0 = .ok (.aload_n 0, 1) := by decide +kernel
theorem d_K_site_1 : decode (ab_bc mt_K_site) 1 = .ok (.iload_n 1, 1) := by decide +kernel
theorem d_K_site_2 : decode (ab_bc mt_K_site) 2 = .ok (.invokevirtual 239, 3) := by decide +kernel
theorem d_K_site_5 : decode (ab_bc mt_K_site) 5 = .ok (.iload_n 2, 1) := by decide +kernel
theorem d_K_site_6 : decode (ab_bc mt_K_site) 6 = .ok (.tableswitch 67 0 3 #[30, 36, 51, 61], 30) := by decide +kernel
theorem d_K_site_36 : decode (ab_bc mt_K_site) 36 = .ok (.aload_n 0, 1) := by decide +kernel
theorem d_K_site_37 : decode (ab_bc mt_K_site) 37 = .ok (.iload_n 1, 1) := by decide +kernel
theorem d_K_site_38 : decode (ab_bc mt_K_site) 38 = .ok (.invokevirtual 242, 3) := by decide +kernel
theorem d_K_site_41 : decode (ab_bc mt_K_site) 41 = .ok (.ireturn, 1) := by decide +kernel
theorem d_K_site_42 : decode (ab_bc mt_K_site) 42 = .ok (.aload_n 0, 1) := by decide +kernel
theorem d_K_site_43 : decode (ab_bc mt_K_site) 43 = .ok (.iload_n 1, 1) := by decide +kernel
theorem d_K_site_44 : decode (ab_bc mt_K_site) 44 = .ok (.invokevirtual 242, 3) := by decide +kernel
theorem d_K_site_47 : decode (ab_bc mt_K_site) 47 = .ok (.iconst 1, 1) := by decide +kernel
theorem d_K_site_48 : decode (ab_bc mt_K_site) 48 = .ok (.if_icmp .ne 7, 3) := by decide +kernel
theorem d_K_site_51 : decode (ab_bc mt_K_site) 51 = .ok (.iconst 1, 1) := by decide +kernel
theorem d_K_site_52 : decode (ab_bc mt_K_site) 52 = .ok (.goto 4, 3) := by decide +kernel
theorem d_K_site_55 : decode (ab_bc mt_K_site) 55 = .ok (.iconst 0, 1) := by decide +kernel
theorem d_K_site_56 : decode (ab_bc mt_K_site) 56 = .ok (.ireturn, 1) := by decide +kernel
theorem d_K_site_57 : decode (ab_bc mt_K_site) 57 = .ok (.aload_n 0, 1) := by decide +kernel
theorem d_K_site_58 : decode (ab_bc mt_K_site) 58 = .ok (.getfield 37, 3) := by decide +kernel
theorem d_K_site_61 : decode (ab_bc mt_K_site) 61 = .ok (.getfield 245, 3) := by decide +kernel
theorem d_K_site_64 : decode (ab_bc mt_K_site) 64 = .ok (.iload_n 1, 1) := by decide +kernel
theorem d_K_site_65 : decode (ab_bc mt_K_site) 65 = .ok (.iaload, 1) := by decide +kernel
theorem d_K_site_66 : decode (ab_bc mt_K_site) 66 = .ok (.ireturn, 1) := by decide +kernel
theorem d_K_site_67 : decode (ab_bc mt_K_site) 67 = .ok (.aload_n 0, 1) := by decide +kernel
theorem d_K_site_68 : decode (ab_bc mt_K_site) 68 = .ok (.iload_n 1, 1) := by decide +kernel
theorem d_K_site_69 : decode (ab_bc mt_K_site) 69 = .ok (.invokevirtual 248, 3) := by decide +kernel
theorem d_K_site_72 : decode (ab_bc mt_K_site) 72 = .ok (.ireturn, 1) := by decide +kernel
theorem d_K_site_73 : decode (ab_bc mt_K_site) 73 = .ok (.new 183, 3) := by decide +kernel
theorem d_K_site_76 : decode (ab_bc mt_K_site) 76 = .ok (.dup, 1) := by decide +kernel
theorem d_K_site_77 : decode (ab_bc mt_K_site) 77 = .ok (.invokespecial 185, 3) := by decide +kernel
theorem d_K_site_80 : decode (ab_bc mt_K_site) 80 = .ok (.athrow, 1) := by decide +kernel
-- CableKeeper.site(II)I over kx
theorem q_K_site_0 {w : ab_Wd} {d n nc ns : Nat} {I : Nat → Nat → Int32} {L : Nat → Nat → Int64} {res : ab_Re} (v1 : Int32) (v2 : Int32) (h8 : 8 ≤ (d + 1)) (hc : nc ≤ res.2.2.2.2.2.1) (hs : ns ≤ res.2.2.2.2.2.2)
    (h : ((ab_C w d mt_K_needSite [.ref kx, .int v1] (I, L, ab_RR, n, nc, ns) (.inl none, (I, L, ab_RR, n, nc, ns)) ∧ ((v2 = 0 → (∃ (r2 : Int32), ab_C w d mt_K_endsAt [.ref kx, .int v1] (I, L, ab_RR, n, nc, ns) (.inl (some (.int r2)), (I, L, ab_RR, n, nc, ns)) ∧ res = (.inl (some (.int r2)), (I, L, ab_RR, n, nc, ns)))) ∧ (v2 = 1 → (∃ (r3 : Int32), ab_C w d mt_K_endsAt [.ref kx, .int v1] (I, L, ab_RR, n, nc, ns) (.inl (some (.int r3)), (I, L, ab_RR, n, nc, ns)) ∧ ((¬ r3 = 1 → (ab_E w (d + 1) mt_K_site 56 [.ref kx, .int v1, .int v2] [.int 0] (I, L, ab_RR, n, nc, ns) res)) ∧ (r3 = 1 → (ab_E w (d + 1) mt_K_site 56 [.ref kx, .int v1, .int v2] [.int 1] (I, L, ab_RR, n, nc, ns) res))))) ∧ (v2 = 2 → ((vp_in v1 10) ∧ res = (.inl (some (.int (I kx_forest_piece v1.toNatClampNeg))), (I, L, ab_RR, n, nc, ns)))) ∧ (v2 = 3 → (∃ (r6 : Int32) (I7 : Nat → Nat → Int32), ab_C w d mt_K_aloneOf [.ref kx, .int v1] (I, L, ab_RR, n, nc, ns) (.inl (some (.int r6)), (I7, L, ab_RR, n, nc, ns)) ∧ res = (.inl (some (.int r6)), (I7, L, ab_RR, n, nc, ns)))) ∧ ((v2.toInt < 0 ∨ 3 < v2.toInt) → (res = (.inr "java/util/NoSuchElementException", (I, L, ab_RR, n, nc + 1, ns + 6)))))) ∨ (∃ E : String, ab_C w d mt_K_needSite [.ref kx, .int v1] (I, L, ab_RR, n, nc, ns) (.inr E, (I, L, ab_RR, n, nc + 1, ns + 6)) ∧ res = (.inr E, (I, L, ab_RR, n, nc + 1, ns + 6))))) : ab_E w (d + 1) mt_K_site 0 [.ref kx, .int v1, .int v2] [] (I, L, ab_RR, n, nc, ns) res := by
  refine ab_aload_n (i := 0) d_K_site_0 rfl rfl ?_
  refine ab_iload_n (i := 1) d_K_site_1 rfl rfl ?_
  rcases h with ⟨hC, h⟩ | ⟨E9, hC, h⟩
  · refine ab_callV (me2 := mt_K_needSite) (b := kx) (as := [.int v1]) (st := []) (rv := none) (M2 := (I, L, ab_RR, n, nc, ns)) d_K_site_2 ce_K_needSite v_1124 v_1126 v_49 (by decide) rfl (Nat.le_of_ble_eq_true rfl) hC (Nat.le_refl _) (Nat.le_refl _) hc hs (fun j h9 => by cases h9) (fun _ _ => rfl) ?_
    show ab_E w (d + 1) mt_K_site 5 [.ref kx, .int v1, .int v2] [] (I, L, ab_RR, n, nc, ns) res
    refine ab_iload_n (i := 2) d_K_site_5 rfl rfl ?_
    by_cases c8 : v2 = 0
    · have h := h.1 c8
      refine ab_tabIn (tgt := 36) d_K_site_6 (by rw [c8]; decide) (by rw [c8]; decide) (by rw [ab_tab_in (j := 0) c8 (by decide)]; rfl) (by decide) ?_
      refine ab_aload_n (i := 0) d_K_site_36 rfl rfl ?_
      refine ab_iload_n (i := 1) d_K_site_37 rfl rfl ?_
      obtain ⟨r2, hC, h⟩ := h
      refine ab_callV (me2 := mt_K_endsAt) (b := kx) (as := [.int v1]) (st := []) (rv := (some (.int r2))) (M2 := (I, L, ab_RR, n, nc, ns)) d_K_site_38 ce_K_endsAt v_956 v_958 v_32 (by decide) rfl (Nat.le_of_ble_eq_true rfl) hC (Nat.le_refl _) (Nat.le_refl _) hc hs (fun j h9 => by cases h9) (fun _ _ => rfl) ?_
      show ab_E w (d + 1) mt_K_site 41 [.ref kx, .int v1, .int v2] [.int r2] (I, L, ab_RR, n, nc, ns) res
      exact ab_iret (ty := .int) d_K_site_41 rfl rfl h
    by_cases c9 : v2 = 1
    · have h := h.2.1 c9
      refine ab_tabIn (tgt := 42) d_K_site_6 (by rw [c9]; decide) (by rw [c9]; decide) (by rw [ab_tab_in (j := 1) c9 (by decide)]; rfl) (by decide) ?_
      refine ab_aload_n (i := 0) d_K_site_42 rfl rfl ?_
      refine ab_iload_n (i := 1) d_K_site_43 rfl rfl ?_
      obtain ⟨r3, hC, h⟩ := h
      refine ab_callV (me2 := mt_K_endsAt) (b := kx) (as := [.int v1]) (st := []) (rv := (some (.int r3))) (M2 := (I, L, ab_RR, n, nc, ns)) d_K_site_44 ce_K_endsAt v_956 v_958 v_32 (by decide) rfl (Nat.le_of_ble_eq_true rfl) hC (Nat.le_refl _) (Nat.le_refl _) hc hs (fun j h9 => by cases h9) (fun _ _ => rfl) ?_
      show ab_E w (d + 1) mt_K_site 47 [.ref kx, .int v1, .int v2] [.int r3] (I, L, ab_RR, n, nc, ns) res
      refine ab_iconst (v := 1) d_K_site_47 rfl ?_
      refine ab_icmp_ne (tgt := 55) d_K_site_48 (by decide) (fun c4 => ?_) (fun c4 => ?_)
      · have h := h.1 c4
        refine ab_iconst (v := 0) d_K_site_55 rfl ?_
        exact h
      · have h := h.2 c4
        refine ab_iconst (v := 1) d_K_site_51 rfl ?_
        refine ab_goto (tgt := 56) d_K_site_52 (by decide) ?_
        exact h
    by_cases c10 : v2 = 2
    · have h := h.2.2.1 c10
      refine ab_tabIn (tgt := 57) d_K_site_6 (by rw [c10]; decide) (by rw [c10]; decide) (by rw [ab_tab_in (j := 2) c10 (by decide)]; rfl) (by decide) ?_
      refine ab_aload_n (i := 0) d_K_site_57 rfl rfl ?_
      refine ab_getR (ci := 10) (k := 6) (j := kx_forest) d_K_site_58 v_478 rfl (by decide) (by decide) rfl r_kx_6 ?_
      refine ab_getR (ci := 2) (k := 5) (j := kx_forest_piece) d_K_site_61 v_341 rfl (by decide) (by decide) rfl r_kx_forest_5 ?_
      refine ab_iload_n (i := 1) d_K_site_64 rfl rfl ?_
      have g5 := h.1; have h := h.2
      refine ab_iald d_K_site_65 rfl rfl g5 ?_
      exact ab_iret (ty := .int) d_K_site_66 rfl rfl h
    by_cases c11 : v2 = 3
    · have h := h.2.2.2.1 c11
      refine ab_tabIn (tgt := 67) d_K_site_6 (by rw [c11]; decide) (by rw [c11]; decide) (by rw [ab_tab_in (j := 3) c11 (by decide)]; rfl) (by decide) ?_
      refine ab_aload_n (i := 0) d_K_site_67 rfl rfl ?_
      refine ab_iload_n (i := 1) d_K_site_68 rfl rfl ?_
      obtain ⟨r6, I7, hC, h⟩ := h
      refine ab_callV (me2 := mt_K_aloneOf) (b := kx) (as := [.int v1]) (st := []) (rv := (some (.int r6))) (M2 := (I7, L, ab_RR, n, nc, ns)) d_K_site_69 ce_K_aloneOf v_1128 v_1130 v_50 (by decide) rfl (Nat.le_of_ble_eq_true rfl) hC (Nat.le_refl _) (Nat.le_refl _) hc hs (fun j h9 => by cases h9) (fun _ _ => rfl) ?_
      show ab_E w (d + 1) mt_K_site 72 [.ref kx, .int v1, .int v2] [.int r6] (I7, L, ab_RR, n, nc, ns) res
      exact ab_iret (ty := .int) d_K_site_72 rfl rfl h
    have hr : v2.toInt < 0 ∨ 3 < v2.toInt := by
      rcases Int.lt_or_le v2.toInt 0 with h9 | h9
      · exact Or.inl h9
      · refine Or.inr (Int.not_le.mp fun h8 => ?_)
        exact ab_tab_out (lo := 0) (hi := 3) (k := 4) h9 h8 (by decide) (by
          intro j hj
          match j, hj with
          | 0, _ => exact c8
          | 1, _ => exact c9
          | 2, _ => exact c10
          | 3, _ => exact c11
          | j9 + 4, hj => exact absurd hj (by omega))
    have h := h.2.2.2.2 hr
    refine ab_tabOut (tgt := 73) d_K_site_6 hr (by decide) ?_
    exact ab_throw (E := "java/util/NoSuchElementException") d_K_site_73 d_K_site_76 d_K_site_77 d_K_site_80 (by decide +kernel) rfl v_1049 v_163 x3_K_185 x4_K_185 h8 (Nat.le_of_ble_eq_true rfl) h
  · exact ab_callVX (me2 := mt_K_needSite) (b := kx) (as := [.int v1]) (st := []) (M2 := (I, L, ab_RR, n, nc + 1, ns + 6)) rfl d_K_site_2 ce_K_needSite v_1124 v_1126 v_49 (by decide) rfl (Nat.le_of_ble_eq_true rfl) hC (Nat.le_succ _) (Nat.le_add_right _ _) (fun _ _ => rfl) h
theorem q_K_site_56 {w : ab_Wd} {d n nc ns : Nat} {I : Nat → Nat → Int32} {L : Nat → Nat → Int64} {res : ab_Re} (v1 : Int32) (v2 : Int32) (s0 : Int32) (h8 : 8 ≤ (d + 1)) (hc : nc ≤ res.2.2.2.2.2.1) (hs : ns ≤ res.2.2.2.2.2.2)
    (h : res = (.inl (some (.int s0)), (I, L, ab_RR, n, nc, ns))) : ab_E w (d + 1) mt_K_site 56 [.ref kx, .int v1, .int v2] [.int s0] (I, L, ab_RR, n, nc, ns) res := by
  exact ab_iret (ty := .int) d_K_site_56 rfl rfl h
theorem d_K_way_0 : decode (ab_bc mt_K_way) 0 = .ok (.aload_n 0, 1) := by decide +kernel
theorem d_K_way_1 : decode (ab_bc mt_K_way) 1 = .ok (.iload_n 1, 1) := by decide +kernel
theorem d_K_way_2 : decode (ab_bc mt_K_way) 2 = .ok (.invokevirtual 239, 3) := by decide +kernel
theorem d_K_way_5 : decode (ab_bc mt_K_way) 5 = .ok (.aload_n 0, 1) := by decide +kernel
theorem d_K_way_6 : decode (ab_bc mt_K_way) 6 = .ok (.iload_n 2, 1) := by decide +kernel
theorem d_K_way_7 : decode (ab_bc mt_K_way) 7 = .ok (.invokevirtual 239, 3) := by decide +kernel
theorem d_K_way_10 : decode (ab_bc mt_K_way) 10 = .ok (.iload_n 3, 1) := by decide +kernel
theorem d_K_way_11 : decode (ab_bc mt_K_way) 11 = .ok (.tableswitch 94 0 4 #[33, 40, 50, 60, 77], 33) := by decide +kernel
theorem d_K_way_44 : decode (ab_bc mt_K_way) 44 = .ok (.aload_n 0, 1) := by decide +kernel
theorem d_K_way_45 : decode (ab_bc mt_K_way) 45 = .ok (.iload_n 1, 1) := by decide +kernel
theorem d_K_way_46 : decode (ab_bc mt_K_way) 46 = .ok (.iload_n 2, 1) := by decide +kernel
theorem d_K_way_47 : decode (ab_bc mt_K_way) 47 = .ok (.invokevirtual 251, 3) := by decide +kernel
theorem d_K_way_50 : decode (ab_bc mt_K_way) 50 = .ok (.ireturn, 1) := by decide +kernel
theorem d_K_way_51 : decode (ab_bc mt_K_way) 51 = .ok (.aload_n 0, 1) := by decide +kernel
theorem d_K_way_52 : decode (ab_bc mt_K_way) 52 = .ok (.getfield 44, 3) := by decide +kernel
theorem d_K_way_55 : decode (ab_bc mt_K_way) 55 = .ok (.iload_n 1, 1) := by decide +kernel
theorem d_K_way_56 : decode (ab_bc mt_K_way) 56 = .ok (.iload_n 2, 1) := by decide +kernel
theorem d_K_way_57 : decode (ab_bc mt_K_way) 57 = .ok (.invokevirtual 254, 3) := by decide +kernel
theorem d_K_way_60 : decode (ab_bc mt_K_way) 60 = .ok (.ireturn, 1) := by decide +kernel
theorem d_K_way_61 : decode (ab_bc mt_K_way) 61 = .ok (.aload_n 0, 1) := by decide +kernel
theorem d_K_way_62 : decode (ab_bc mt_K_way) 62 = .ok (.getfield 44, 3) := by decide +kernel
theorem d_K_way_65 : decode (ab_bc mt_K_way) 65 = .ok (.iload_n 1, 1) := by decide +kernel
theorem d_K_way_66 : decode (ab_bc mt_K_way) 66 = .ok (.iload_n 2, 1) := by decide +kernel
theorem d_K_way_67 : decode (ab_bc mt_K_way) 67 = .ok (.invokevirtual 257, 3) := by decide +kernel
theorem d_K_way_70 : decode (ab_bc mt_K_way) 70 = .ok (.ireturn, 1) := by decide +kernel
theorem d_K_way_71 : decode (ab_bc mt_K_way) 71 = .ok (.aload_n 0, 1) := by decide +kernel
theorem d_K_way_72 : decode (ab_bc mt_K_way) 72 = .ok (.getfield 65, 3) := by decide +kernel
theorem d_K_way_75 : decode (ab_bc mt_K_way) 75 = .ok (.aload_n 0, 1) := by decide +kernel
theorem d_K_way_76 : decode (ab_bc mt_K_way) 76 = .ok (.getfield 23, 3) := by decide +kernel
theorem d_K_way_79 : decode (ab_bc mt_K_way) 79 = .ok (.getfield 110, 3) := by decide +kernel
theorem d_K_way_82 : decode (ab_bc mt_K_way) 82 = .ok (.iload_n 1, 1) := by decide +kernel
theorem d_K_way_83 : decode (ab_bc mt_K_way) 83 = .ok (.iload_n 2, 1) := by decide +kernel
theorem d_K_way_84 : decode (ab_bc mt_K_way) 84 = .ok (.invokevirtual 260, 3) := by decide +kernel
theorem d_K_way_87 : decode (ab_bc mt_K_way) 87 = .ok (.ireturn, 1) := by decide +kernel
theorem d_K_way_88 : decode (ab_bc mt_K_way) 88 = .ok (.aload_n 0, 1) := by decide +kernel
theorem d_K_way_89 : decode (ab_bc mt_K_way) 89 = .ok (.getfield 65, 3) := by decide +kernel
theorem d_K_way_92 : decode (ab_bc mt_K_way) 92 = .ok (.aload_n 0, 1) := by decide +kernel
theorem d_K_way_93 : decode (ab_bc mt_K_way) 93 = .ok (.getfield 23, 3) := by decide +kernel
theorem d_K_way_96 : decode (ab_bc mt_K_way) 96 = .ok (.getfield 110, 3) := by decide +kernel
theorem d_K_way_99 : decode (ab_bc mt_K_way) 99 = .ok (.iload_n 1, 1) := by decide +kernel
theorem d_K_way_100 : decode (ab_bc mt_K_way) 100 = .ok (.iload_n 2, 1) := by decide +kernel
theorem d_K_way_101 : decode (ab_bc mt_K_way) 101 = .ok (.invokevirtual 264, 3) := by decide +kernel
theorem d_K_way_104 : decode (ab_bc mt_K_way) 104 = .ok (.ireturn, 1) := by decide +kernel
theorem d_K_way_105 : decode (ab_bc mt_K_way) 105 = .ok (.new 183, 3) := by decide +kernel
theorem d_K_way_108 : decode (ab_bc mt_K_way) 108 = .ok (.dup, 1) := by decide +kernel
theorem d_K_way_109 : decode (ab_bc mt_K_way) 109 = .ok (.invokespecial 185, 3) := by decide +kernel
theorem d_K_way_112 : decode (ab_bc mt_K_way) 112 = .ok (.athrow, 1) := by decide +kernel
-- CableKeeper.way(III)I over kx
theorem q_K_way_0 {w : ab_Wd} {d n nc ns : Nat} {I : Nat → Nat → Int32} {L : Nat → Nat → Int64} {res : ab_Re} (v1 : Int32) (v2 : Int32) (v3 : Int32) (h8 : 8 ≤ (d + 1)) (hc : nc ≤ res.2.2.2.2.2.1) (hs : ns ≤ res.2.2.2.2.2.2)
    (h : ((ab_C w d mt_K_needSite [.ref kx, .int v1] (I, L, ab_RR, n, nc, ns) (.inl none, (I, L, ab_RR, n, nc, ns)) ∧ ((ab_C w d mt_K_needSite [.ref kx, .int v2] (I, L, ab_RR, n, nc, ns) (.inl none, (I, L, ab_RR, n, nc, ns)) ∧ ((v3 = 0 → (∃ (r3 : Int32), ab_C w d mt_K_narrowOf [.ref kx, .int v1, .int v2] (I, L, ab_RR, n, nc, ns) (.inl (some (.int r3)), (I, L, ab_RR, n, nc, ns)) ∧ res = (.inl (some (.int r3)), (I, L, ab_RR, n, nc, ns)))) ∧ (v3 = 1 → (∃ (r4 : Int32), ab_C w d mt_Ways_spanOf [.ref kx_ways, .int v1, .int v2] (I, L, ab_RR, n, nc, ns) (.inl (some (.int r4)), (I, L, ab_RR, n, nc, ns)) ∧ res = (.inl (some (.int r4)), (I, L, ab_RR, n, nc, ns)))) ∧ (v3 = 2 → (∃ (r5 : Int32), ab_C w d mt_Ways_cablesBetween [.ref kx_ways, .int v1, .int v2] (I, L, ab_RR, n, nc, ns) (.inl (some (.int r5)), (I, L, ab_RR, n, nc, ns)) ∧ res = (.inl (some (.int r5)), (I, L, ab_RR, n, nc, ns)))) ∧ (v3 = 3 → (∃ (r6 : Int32) (I7 : Nat → Nat → Int32), ab_C w d mt_Roads_shortest [.ref kx_roads, .ref kx_now_cables, .int v1, .int v2] (I, L, ab_RR, n, nc, ns) (.inl (some (.int r6)), (I7, L, ab_RR, n, nc, ns)) ∧ res = (.inl (some (.int r6)), (I7, L, ab_RR, n, nc, ns)))) ∧ (v3 = 4 → (∃ (r8 : Int32) (I9 : Nat → Nat → Int32), ab_C w d mt_Roads_apart [.ref kx_roads, .ref kx_now_cables, .int v1, .int v2] (I, L, ab_RR, n, nc, ns) (.inl (some (.int r8)), (I9, L, ab_RR, n, nc, ns)) ∧ res = (.inl (some (.int r8)), (I9, L, ab_RR, n, nc, ns)))) ∧ ((v3.toInt < 0 ∨ 4 < v3.toInt) → (res = (.inr "java/util/NoSuchElementException", (I, L, ab_RR, n, nc + 1, ns + 6)))))) ∨ (∃ E : String, ab_C w d mt_K_needSite [.ref kx, .int v2] (I, L, ab_RR, n, nc, ns) (.inr E, (I, L, ab_RR, n, nc + 1, ns + 6)) ∧ res = (.inr E, (I, L, ab_RR, n, nc + 1, ns + 6))))) ∨ (∃ E : String, ab_C w d mt_K_needSite [.ref kx, .int v1] (I, L, ab_RR, n, nc, ns) (.inr E, (I, L, ab_RR, n, nc + 1, ns + 6)) ∧ res = (.inr E, (I, L, ab_RR, n, nc + 1, ns + 6))))) : ab_E w (d + 1) mt_K_way 0 [.ref kx, .int v1, .int v2, .int v3] [] (I, L, ab_RR, n, nc, ns) res := by
  refine ab_aload_n (i := 0) d_K_way_0 rfl rfl ?_
  refine ab_iload_n (i := 1) d_K_way_1 rfl rfl ?_
  rcases h with ⟨hC, h⟩ | ⟨E9, hC, h⟩
  · refine ab_callV (me2 := mt_K_needSite) (b := kx) (as := [.int v1]) (st := []) (rv := none) (M2 := (I, L, ab_RR, n, nc, ns)) d_K_way_2 ce_K_needSite v_1124 v_1126 v_49 (by decide) rfl (Nat.le_of_ble_eq_true rfl) hC (Nat.le_refl _) (Nat.le_refl _) hc hs (fun j h9 => by cases h9) (fun _ _ => rfl) ?_
    show ab_E w (d + 1) mt_K_way 5 [.ref kx, .int v1, .int v2, .int v3] [] (I, L, ab_RR, n, nc, ns) res
    refine ab_aload_n (i := 0) d_K_way_5 rfl rfl ?_
    refine ab_iload_n (i := 2) d_K_way_6 rfl rfl ?_
    rcases h with ⟨hC, h⟩ | ⟨E9, hC, h⟩
    · refine ab_callV (me2 := mt_K_needSite) (b := kx) (as := [.int v2]) (st := []) (rv := none) (M2 := (I, L, ab_RR, n, nc, ns)) d_K_way_7 ce_K_needSite v_1124 v_1126 v_49 (by decide) rfl (Nat.le_of_ble_eq_true rfl) hC (Nat.le_refl _) (Nat.le_refl _) hc hs (fun j h9 => by cases h9) (fun _ _ => rfl) ?_
      show ab_E w (d + 1) mt_K_way 10 [.ref kx, .int v1, .int v2, .int v3] [] (I, L, ab_RR, n, nc, ns) res
      refine ab_iload_n (i := 3) d_K_way_10 rfl rfl ?_
      by_cases c10 : v3 = 0
      · have h := h.1 c10
        refine ab_tabIn (tgt := 44) d_K_way_11 (by rw [c10]; decide) (by rw [c10]; decide) (by rw [ab_tab_in (j := 0) c10 (by decide)]; rfl) (by decide) ?_
        refine ab_aload_n (i := 0) d_K_way_44 rfl rfl ?_
        refine ab_iload_n (i := 1) d_K_way_45 rfl rfl ?_
        refine ab_iload_n (i := 2) d_K_way_46 rfl rfl ?_
        obtain ⟨r3, hC, h⟩ := h
        refine ab_callV (me2 := mt_K_narrowOf) (b := kx) (as := [.int v1, .int v2]) (st := []) (rv := (some (.int r3))) (M2 := (I, L, ab_RR, n, nc, ns)) d_K_way_47 ce_K_narrowOf v_1143 v_1145 v_51 (by decide) rfl (Nat.le_of_ble_eq_true rfl) hC (Nat.le_refl _) (Nat.le_refl _) hc hs (fun j h9 => by cases h9) (fun _ _ => rfl) ?_
        show ab_E w (d + 1) mt_K_way 50 [.ref kx, .int v1, .int v2, .int v3] [.int r3] (I, L, ab_RR, n, nc, ns) res
        exact ab_iret (ty := .int) d_K_way_50 rfl rfl h
      by_cases c11 : v3 = 1
      · have h := h.2.1 c11
        refine ab_tabIn (tgt := 51) d_K_way_11 (by rw [c11]; decide) (by rw [c11]; decide) (by rw [ab_tab_in (j := 1) c11 (by decide)]; rfl) (by decide) ?_
        refine ab_aload_n (i := 0) d_K_way_51 rfl rfl ?_
        refine ab_getR (ci := 10) (k := 7) (j := kx_ways) d_K_way_52 v_479 rfl (by decide) (by decide) rfl r_kx_7 ?_
        refine ab_iload_n (i := 1) d_K_way_55 rfl rfl ?_
        refine ab_iload_n (i := 2) d_K_way_56 rfl rfl ?_
        obtain ⟨r4, hC, h⟩ := h
        refine ab_callV (me2 := mt_Ways_spanOf) (b := kx_ways) (as := [.int v1, .int v2]) (st := []) (rv := (some (.int r4))) (M2 := (I, L, ab_RR, n, nc, ns)) d_K_way_57 ce_Ways_spanOf v_1000 v_1001 v_1002 (by decide) rfl (Nat.le_of_ble_eq_true rfl) hC (Nat.le_refl _) (Nat.le_refl _) hc hs (fun j h9 => by cases h9) (fun _ _ => rfl) ?_
        show ab_E w (d + 1) mt_K_way 60 [.ref kx, .int v1, .int v2, .int v3] [.int r4] (I, L, ab_RR, n, nc, ns) res
        exact ab_iret (ty := .int) d_K_way_60 rfl rfl h
      by_cases c12 : v3 = 2
      · have h := h.2.2.1 c12
        refine ab_tabIn (tgt := 61) d_K_way_11 (by rw [c12]; decide) (by rw [c12]; decide) (by rw [ab_tab_in (j := 2) c12 (by decide)]; rfl) (by decide) ?_
        refine ab_aload_n (i := 0) d_K_way_61 rfl rfl ?_
        refine ab_getR (ci := 10) (k := 7) (j := kx_ways) d_K_way_62 v_479 rfl (by decide) (by decide) rfl r_kx_7 ?_
        refine ab_iload_n (i := 1) d_K_way_65 rfl rfl ?_
        refine ab_iload_n (i := 2) d_K_way_66 rfl rfl ?_
        obtain ⟨r5, hC, h⟩ := h
        refine ab_callV (me2 := mt_Ways_cablesBetween) (b := kx_ways) (as := [.int v1, .int v2]) (st := []) (rv := (some (.int r5))) (M2 := (I, L, ab_RR, n, nc, ns)) d_K_way_67 ce_Ways_cablesBetween v_1079 v_1080 v_1081 (by decide) rfl (Nat.le_of_ble_eq_true rfl) hC (Nat.le_refl _) (Nat.le_refl _) hc hs (fun j h9 => by cases h9) (fun _ _ => rfl) ?_
        show ab_E w (d + 1) mt_K_way 70 [.ref kx, .int v1, .int v2, .int v3] [.int r5] (I, L, ab_RR, n, nc, ns) res
        exact ab_iret (ty := .int) d_K_way_70 rfl rfl h
      by_cases c13 : v3 = 3
      · have h := h.2.2.2.1 c13
        refine ab_tabIn (tgt := 71) d_K_way_11 (by rw [c13]; decide) (by rw [c13]; decide) (by rw [ab_tab_in (j := 3) c13 (by decide)]; rfl) (by decide) ?_
        refine ab_aload_n (i := 0) d_K_way_71 rfl rfl ?_
        refine ab_getR (ci := 10) (k := 11) (j := kx_roads) d_K_way_72 v_483 rfl (by decide) (by decide) rfl r_kx_11 ?_
        refine ab_aload_n (i := 0) d_K_way_75 rfl rfl ?_
        refine ab_getR (ci := 10) (k := 3) (j := kx_now) d_K_way_76 v_475 rfl (by decide) (by decide) rfl r_kx_3 ?_
        refine ab_getR (ci := 6) (k := 0) (j := kx_now_cables) d_K_way_79 v_294 rfl (by decide) (by decide) rfl r_kx_now_0 ?_
        refine ab_iload_n (i := 1) d_K_way_82 rfl rfl ?_
        refine ab_iload_n (i := 2) d_K_way_83 rfl rfl ?_
        obtain ⟨r6, I7, hC, h⟩ := h
        refine ab_callV (me2 := mt_Roads_shortest) (b := kx_roads) (as := [.ref kx_now_cables, .int v1, .int v2]) (st := []) (rv := (some (.int r6))) (M2 := (I7, L, ab_RR, n, nc, ns)) d_K_way_84 ce_Roads_shortest v_1147 v_1148 v_1149 (by decide) rfl (Nat.le_of_ble_eq_true rfl) hC (Nat.le_refl _) (Nat.le_refl _) hc hs (fun j h9 => by cases h9) (fun _ _ => rfl) ?_
        show ab_E w (d + 1) mt_K_way 87 [.ref kx, .int v1, .int v2, .int v3] [.int r6] (I7, L, ab_RR, n, nc, ns) res
        exact ab_iret (ty := .int) d_K_way_87 rfl rfl h
      by_cases c14 : v3 = 4
      · have h := h.2.2.2.2.1 c14
        refine ab_tabIn (tgt := 88) d_K_way_11 (by rw [c14]; decide) (by rw [c14]; decide) (by rw [ab_tab_in (j := 4) c14 (by decide)]; rfl) (by decide) ?_
        refine ab_aload_n (i := 0) d_K_way_88 rfl rfl ?_
        refine ab_getR (ci := 10) (k := 11) (j := kx_roads) d_K_way_89 v_483 rfl (by decide) (by decide) rfl r_kx_11 ?_
        refine ab_aload_n (i := 0) d_K_way_92 rfl rfl ?_
        refine ab_getR (ci := 10) (k := 3) (j := kx_now) d_K_way_93 v_475 rfl (by decide) (by decide) rfl r_kx_3 ?_
        refine ab_getR (ci := 6) (k := 0) (j := kx_now_cables) d_K_way_96 v_294 rfl (by decide) (by decide) rfl r_kx_now_0 ?_
        refine ab_iload_n (i := 1) d_K_way_99 rfl rfl ?_
        refine ab_iload_n (i := 2) d_K_way_100 rfl rfl ?_
        obtain ⟨r8, I9, hC, h⟩ := h
        refine ab_callV (me2 := mt_Roads_apart) (b := kx_roads) (as := [.ref kx_now_cables, .int v1, .int v2]) (st := []) (rv := (some (.int r8))) (M2 := (I9, L, ab_RR, n, nc, ns)) d_K_way_101 ce_Roads_apart v_1155 v_1156 v_1157 (by decide) rfl (Nat.le_of_ble_eq_true rfl) hC (Nat.le_refl _) (Nat.le_refl _) hc hs (fun j h9 => by cases h9) (fun _ _ => rfl) ?_
        show ab_E w (d + 1) mt_K_way 104 [.ref kx, .int v1, .int v2, .int v3] [.int r8] (I9, L, ab_RR, n, nc, ns) res
        exact ab_iret (ty := .int) d_K_way_104 rfl rfl h
      have hr : v3.toInt < 0 ∨ 4 < v3.toInt := by
        rcases Int.lt_or_le v3.toInt 0 with h9 | h9
        · exact Or.inl h9
        · refine Or.inr (Int.not_le.mp fun h8 => ?_)
          exact ab_tab_out (lo := 0) (hi := 4) (k := 5) h9 h8 (by decide) (by
            intro j hj
            match j, hj with
            | 0, _ => exact c10
            | 1, _ => exact c11
            | 2, _ => exact c12
            | 3, _ => exact c13
            | 4, _ => exact c14
            | j9 + 5, hj => exact absurd hj (by omega))
      have h := h.2.2.2.2.2 hr
      refine ab_tabOut (tgt := 105) d_K_way_11 hr (by decide) ?_
      exact ab_throw (E := "java/util/NoSuchElementException") d_K_way_105 d_K_way_108 d_K_way_109 d_K_way_112 (by decide +kernel) rfl v_1049 v_163 x3_K_185 x4_K_185 h8 (Nat.le_of_ble_eq_true rfl) h
    · exact ab_callVX (me2 := mt_K_needSite) (b := kx) (as := [.int v2]) (st := []) (M2 := (I, L, ab_RR, n, nc + 1, ns + 6)) rfl d_K_way_7 ce_K_needSite v_1124 v_1126 v_49 (by decide) rfl (Nat.le_of_ble_eq_true rfl) hC (Nat.le_succ _) (Nat.le_add_right _ _) (fun _ _ => rfl) h
  · exact ab_callVX (me2 := mt_K_needSite) (b := kx) (as := [.int v1]) (st := []) (M2 := (I, L, ab_RR, n, nc + 1, ns + 6)) rfl d_K_way_2 ce_K_needSite v_1124 v_1126 v_49 (by decide) rfl (Nat.le_of_ble_eq_true rfl) hC (Nat.le_succ _) (Nat.le_add_right _ _) (fun _ _ => rfl) h
theorem d_K_firm_0 : decode (ab_bc mt_K_firm) 0 = .ok (.iload_n 1, 1) := by decide +kernel
theorem d_K_firm_1 : decode (ab_bc mt_K_firm) 1 = .ok (.invokestatic 267, 3) := by decide +kernel
theorem d_K_firm_4 : decode (ab_bc mt_K_firm) 4 = .ok (.ifCond .ne 11, 3) := by decide +kernel
theorem d_K_firm_7 : decode (ab_bc mt_K_firm) 7 = .ok (.new 183, 3) := by decide +kernel
theorem d_K_firm_10 : decode (ab_bc mt_K_firm) 10 = .ok (.dup, 1) := by decide +kernel
theorem d_K_firm_11 : decode (ab_bc mt_K_firm) 11 = .ok (.invokespecial 185, 3) := by decide +kernel
theorem d_K_firm_14 : decode (ab_bc mt_K_firm) 14 = .ok (.athrow, 1) := by decide +kernel
theorem d_K_firm_15 : decode (ab_bc mt_K_firm) 15 = .ok (.aload_n 0, 1) := by decide +kernel
theorem d_K_firm_16 : decode (ab_bc mt_K_firm) 16 = .ok (.getfield 23, 3) := by decide +kernel
theorem d_K_firm_19 : decode (ab_bc mt_K_firm) 19 = .ok (.getfield 110, 3) := by decide +kernel
theorem d_K_firm_22 : decode (ab_bc mt_K_firm) 22 = .ok (.iload_n 1, 1) := by decide +kernel
theorem d_K_firm_23 : decode (ab_bc mt_K_firm) 23 = .ok (.invokevirtual 270, 3) := by decide +kernel
theorem d_K_firm_26 : decode (ab_bc mt_K_firm) 26 = .ok (.istore_n 3, 1) := by decide +kernel
theorem d_K_firm_27 : decode (ab_bc mt_K_firm) 27 = .ok (.iload_n 2, 1) := by decide +kernel
theorem d_K_firm_28 : decode (ab_bc mt_K_firm) 28 = .ok (.tableswitch 67 0 2 #[28, 41, 61], 28) := by decide +kernel
theorem d_K_firm_56 : decode (ab_bc mt_K_firm) 56 = .ok (.iload_n 3, 1) := by decide +kernel
theorem d_K_firm_57 : decode (ab_bc mt_K_firm) 57 = .ok (.aload_n 0, 1) := by decide +kernel
theorem d_K_firm_58 : decode (ab_bc mt_K_firm) 58 = .ok (.getfield 23, 3) := by decide +kernel
theorem d_K_firm_61 : decode (ab_bc mt_K_firm) 61 = .ok (.getfield 110, 3) := by decide +kernel
theorem d_K_firm_64 : decode (ab_bc mt_K_firm) 64 = .ok (.getfield 119, 3) := by decide +kernel
theorem d_K_firm_67 : decode (ab_bc mt_K_firm) 67 = .ok (.iand, 1) := by decide +kernel
theorem d_K_firm_68 : decode (ab_bc mt_K_firm) 68 = .ok (.ireturn, 1) := by decide +kernel
theorem d_K_firm_69 : decode (ab_bc mt_K_firm) 69 = .ok (.aload_n 0, 1) := by decide +kernel
theorem d_K_firm_70 : decode (ab_bc mt_K_firm) 70 = .ok (.getfield 23, 3) := by decide +kernel
theorem d_K_firm_73 : decode (ab_bc mt_K_firm) 73 = .ok (.getfield 110, 3) := by decide +kernel
theorem d_K_firm_76 : decode (ab_bc mt_K_firm) 76 = .ok (.iload_n 3, 1) := by decide +kernel
theorem d_K_firm_77 : decode (ab_bc mt_K_firm) 77 = .ok (.aload_n 0, 1) := by decide +kernel
theorem d_K_firm_78 : decode (ab_bc mt_K_firm) 78 = .ok (.getfield 37, 3) := by decide +kernel
theorem d_K_firm_81 : decode (ab_bc mt_K_firm) 81 = .ok (.getfield 122, 3) := by decide +kernel
theorem d_K_firm_84 : decode (ab_bc mt_K_firm) 84 = .ok (.iand, 1) := by decide +kernel
theorem d_K_firm_85 : decode (ab_bc mt_K_firm) 85 = .ok (.invokevirtual 273, 3) := by decide +kernel
theorem d_K_firm_88 : decode (ab_bc mt_K_firm) 88 = .ok (.ireturn, 1) := by decide +kernel
theorem d_K_firm_89 : decode (ab_bc mt_K_firm) 89 = .ok (.aload_n 0, 1) := by decide +kernel
theorem d_K_firm_90 : decode (ab_bc mt_K_firm) 90 = .ok (.iload_n 3, 1) := by decide +kernel
theorem d_K_firm_91 : decode (ab_bc mt_K_firm) 91 = .ok (.invokevirtual 276, 3) := by decide +kernel
theorem d_K_firm_94 : decode (ab_bc mt_K_firm) 94 = .ok (.ireturn, 1) := by decide +kernel
theorem d_K_firm_95 : decode (ab_bc mt_K_firm) 95 = .ok (.new 183, 3) := by decide +kernel
theorem d_K_firm_98 : decode (ab_bc mt_K_firm) 98 = .ok (.dup, 1) := by decide +kernel
theorem d_K_firm_99 : decode (ab_bc mt_K_firm) 99 = .ok (.invokespecial 185, 3) := by decide +kernel
theorem d_K_firm_102 : decode (ab_bc mt_K_firm) 102 = .ok (.athrow, 1) := by decide +kernel
-- CableKeeper.firm(II)I over kx
theorem q_K_firm_0 {w : ab_Wd} {d n nc ns : Nat} {I : Nat → Nat → Int32} {L : Nat → Nat → Int64} {res : ab_Re} (v1 : Int32) (v2 : Int32) (h8 : 8 ≤ (d + 1)) (hc : nc ≤ res.2.2.2.2.2.1) (hs : ns ≤ res.2.2.2.2.2.2)
    (h : ∃ (r1 : Int32), ab_C w d mt_K_isFirm [.int v1] (I, L, ab_RR, n, nc, ns) (.inl (some (.int r1)), (I, L, ab_RR, n, nc, ns)) ∧ ((¬ r1 = 0 → (∃ (r3 : Int32), ab_C w d mt_Cables_ofFirm [.ref kx_now_cables, .int v1] (I, L, ab_RR, n, nc, ns) (.inl (some (.int r3)), (I, L, ab_RR, n, nc, ns)) ∧ ((v2 = 0 → (res = (.inl (some (.int (r3 &&& (I kx_now_cables 2)))), (I, L, ab_RR, n, nc, ns)))) ∧ (v2 = 1 → (∃ (r4 : Int32), ab_C w d mt_Cables_pricesOf [.ref kx_now_cables, .int (r3 &&& (I kx_forest 2))] (I, L, ab_RR, n, nc, ns) (.inl (some (.int r4)), (I, L, ab_RR, n, nc, ns)) ∧ res = (.inl (some (.int r4)), (I, L, ab_RR, n, nc, ns)))) ∧ (v2 = 2 → (∃ (r5 : Int32) (I6 : Nat → Nat → Int32), ab_C w d mt_K_payOf [.ref kx, .int r3] (I, L, ab_RR, n, nc, ns) (.inl (some (.int r5)), (I6, L, ab_RR, n, nc, ns)) ∧ res = (.inl (some (.int r5)), (I6, L, ab_RR, n, nc, ns)))) ∧ ((v2.toInt < 0 ∨ 2 < v2.toInt) → (res = (.inr "java/util/NoSuchElementException", (I, L, ab_RR, n, nc + 1, ns + 6))))))) ∧ (r1 = 0 → (res = (.inr "java/util/NoSuchElementException", (I, L, ab_RR, n, nc + 1, ns + 6)))))) : ab_E w (d + 1) mt_K_firm 0 [.ref kx, .int v1, .int v2, .null] [] (I, L, ab_RR, n, nc, ns) res := by
  refine ab_iload_n (i := 1) d_K_firm_0 rfl rfl ?_
  obtain ⟨r1, hC, h⟩ := h
  refine ab_callS (me2 := mt_K_isFirm) (as := [.int v1]) (st := []) (rv := (some (.int r1))) (M2 := (I, L, ab_RR, n, nc, ns)) d_K_firm_1 ce_K_isFirm ⟨v_611, Or.inl v_610⟩ (Nat.le_of_ble_eq_true rfl) hC (Nat.le_refl _) (Nat.le_refl _) hc hs (fun j h9 => by cases h9) (fun _ _ => rfl) ?_
  show ab_E w (d + 1) mt_K_firm 4 [.ref kx, .int v1, .int v2, .null] [.int r1] (I, L, ab_RR, n, nc, ns) res
  refine ab_if_ne (tgt := 15) d_K_firm_4 (by decide) (fun c2 => ?_) (fun c2 => ?_)
  · have h := h.1 c2
    refine ab_aload_n (i := 0) d_K_firm_15 rfl rfl ?_
    refine ab_getR (ci := 10) (k := 3) (j := kx_now) d_K_firm_16 v_475 rfl (by decide) (by decide) rfl r_kx_3 ?_
    refine ab_getR (ci := 6) (k := 0) (j := kx_now_cables) d_K_firm_19 v_294 rfl (by decide) (by decide) rfl r_kx_now_0 ?_
    refine ab_iload_n (i := 1) d_K_firm_22 rfl rfl ?_
    obtain ⟨r3, hC, h⟩ := h
    refine ab_callV (me2 := mt_Cables_ofFirm) (b := kx_now_cables) (as := [.int v1]) (st := []) (rv := (some (.int r3))) (M2 := (I, L, ab_RR, n, nc, ns)) d_K_firm_23 ce_Cables_ofFirm v_613 v_614 v_615 (by decide) rfl (Nat.le_of_ble_eq_true rfl) hC (Nat.le_refl _) (Nat.le_refl _) hc hs (fun j h9 => by cases h9) (fun _ _ => rfl) ?_
    show ab_E w (d + 1) mt_K_firm 26 [.ref kx, .int v1, .int v2, .null] [.int r3] (I, L, ab_RR, n, nc, ns) res
    refine ab_istore_n (i := 3) d_K_firm_26 rfl (by decide) (Or.inr rfl) ?_
    refine ab_iload_n (i := 2) d_K_firm_27 rfl rfl ?_
    by_cases c7 : v2 = 0
    · have h := h.1 c7
      refine ab_tabIn (tgt := 56) d_K_firm_28 (by rw [c7]; decide) (by rw [c7]; decide) (by rw [ab_tab_in (j := 0) c7 (by decide)]; rfl) (by decide) ?_
      refine ab_iload_n (i := 3) d_K_firm_56 rfl rfl ?_
      refine ab_aload_n (i := 0) d_K_firm_57 rfl rfl ?_
      refine ab_getR (ci := 10) (k := 3) (j := kx_now) d_K_firm_58 v_475 rfl (by decide) (by decide) rfl r_kx_3 ?_
      refine ab_getR (ci := 6) (k := 0) (j := kx_now_cables) d_K_firm_61 v_294 rfl (by decide) (by decide) rfl r_kx_now_0 ?_
      refine ab_getI (ci := 1) (k := 2) d_K_firm_64 v_202 rfl (by decide) (by decide) rfl ?_
      refine ab_iand d_K_firm_67 ?_
      exact ab_iret (ty := .int) d_K_firm_68 rfl rfl h
    by_cases c8 : v2 = 1
    · have h := h.2.1 c8
      refine ab_tabIn (tgt := 69) d_K_firm_28 (by rw [c8]; decide) (by rw [c8]; decide) (by rw [ab_tab_in (j := 1) c8 (by decide)]; rfl) (by decide) ?_
      refine ab_aload_n (i := 0) d_K_firm_69 rfl rfl ?_
      refine ab_getR (ci := 10) (k := 3) (j := kx_now) d_K_firm_70 v_475 rfl (by decide) (by decide) rfl r_kx_3 ?_
      refine ab_getR (ci := 6) (k := 0) (j := kx_now_cables) d_K_firm_73 v_294 rfl (by decide) (by decide) rfl r_kx_now_0 ?_
      refine ab_iload_n (i := 3) d_K_firm_76 rfl rfl ?_
      refine ab_aload_n (i := 0) d_K_firm_77 rfl rfl ?_
      refine ab_getR (ci := 10) (k := 6) (j := kx_forest) d_K_firm_78 v_478 rfl (by decide) (by decide) rfl r_kx_6 ?_
      refine ab_getI (ci := 2) (k := 2) d_K_firm_81 v_335 rfl (by decide) (by decide) rfl ?_
      refine ab_iand d_K_firm_84 ?_
      obtain ⟨r4, hC, h⟩ := h
      refine ab_callV (me2 := mt_Cables_pricesOf) (b := kx_now_cables) (as := [.int (r3 &&& (I kx_forest 2))]) (st := []) (rv := (some (.int r4))) (M2 := (I, L, ab_RR, n, nc, ns)) d_K_firm_85 ce_Cables_pricesOf v_1179 v_1180 v_1181 (by decide) rfl (Nat.le_of_ble_eq_true rfl) hC (Nat.le_refl _) (Nat.le_refl _) hc hs (fun j h9 => by cases h9) (fun _ _ => rfl) ?_
      show ab_E w (d + 1) mt_K_firm 88 [.ref kx, .int v1, .int v2, .int r3] [.int r4] (I, L, ab_RR, n, nc, ns) res
      exact ab_iret (ty := .int) d_K_firm_88 rfl rfl h
    by_cases c9 : v2 = 2
    · have h := h.2.2.1 c9
      refine ab_tabIn (tgt := 89) d_K_firm_28 (by rw [c9]; decide) (by rw [c9]; decide) (by rw [ab_tab_in (j := 2) c9 (by decide)]; rfl) (by decide) ?_
      refine ab_aload_n (i := 0) d_K_firm_89 rfl rfl ?_
      refine ab_iload_n (i := 3) d_K_firm_90 rfl rfl ?_
      obtain ⟨r5, I6, hC, h⟩ := h
      refine ab_callV (me2 := mt_K_payOf) (b := kx) (as := [.int r3]) (st := []) (rv := (some (.int r5))) (M2 := (I6, L, ab_RR, n, nc, ns)) d_K_firm_91 ce_K_payOf v_1183 v_1185 v_55 (by decide) rfl (Nat.le_of_ble_eq_true rfl) hC (Nat.le_refl _) (Nat.le_refl _) hc hs (fun j h9 => by cases h9) (fun _ _ => rfl) ?_
      show ab_E w (d + 1) mt_K_firm 94 [.ref kx, .int v1, .int v2, .int r3] [.int r5] (I6, L, ab_RR, n, nc, ns) res
      exact ab_iret (ty := .int) d_K_firm_94 rfl rfl h
    have hr : v2.toInt < 0 ∨ 2 < v2.toInt := by
      rcases Int.lt_or_le v2.toInt 0 with h9 | h9
      · exact Or.inl h9
      · refine Or.inr (Int.not_le.mp fun h8 => ?_)
        exact ab_tab_out (lo := 0) (hi := 2) (k := 3) h9 h8 (by decide) (by
          intro j hj
          match j, hj with
          | 0, _ => exact c7
          | 1, _ => exact c8
          | 2, _ => exact c9
          | j9 + 3, hj => exact absurd hj (by omega))
    have h := h.2.2.2 hr
    refine ab_tabOut (tgt := 95) d_K_firm_28 hr (by decide) ?_
    exact ab_throw (E := "java/util/NoSuchElementException") d_K_firm_95 d_K_firm_98 d_K_firm_99 d_K_firm_102 (by decide +kernel) rfl v_1049 v_163 x3_K_185 x4_K_185 h8 (Nat.le_of_ble_eq_true rfl) h
  · have h := h.2 c2
    exact ab_throw (E := "java/util/NoSuchElementException") d_K_firm_7 d_K_firm_10 d_K_firm_11 d_K_firm_14 (by decide +kernel) rfl v_1049 v_163 x3_K_185 x4_K_185 h8 (Nat.le_of_ble_eq_true rfl) h
