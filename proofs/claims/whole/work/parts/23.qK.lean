theorem d_K_share_0 : decode (ab_bc mt_K_share) 0 = .ok (.aload_n 0, 1) := by decide +kernel
theorem d_K_share_1 : decode (ab_bc mt_K_share) 1 = .ok (.iload_n 1, 1) := by decide +kernel
theorem d_K_share_2 : decode (ab_bc mt_K_share) 2 = .ok (.invokevirtual 239, 3) := by decide +kernel
theorem d_K_share_5 : decode (ab_bc mt_K_share) 5 = .ok (.iload_n 1, 1) := by decide +kernel
theorem d_K_share_6 : decode (ab_bc mt_K_share) 6 = .ok (.ifCond .ne 5, 3) := by decide +kernel
theorem d_K_share_9 : decode (ab_bc mt_K_share) 9 = .ok (.iconst 0, 1) := by decide +kernel
theorem d_K_share_10 : decode (ab_bc mt_K_share) 10 = .ok (.ireturn, 1) := by decide +kernel
theorem d_K_share_11 : decode (ab_bc mt_K_share) 11 = .ok (.aload_n 0, 1) := by decide +kernel
theorem d_K_share_12 : decode (ab_bc mt_K_share) 12 = .ok (.getfield 44, 3) := by decide +kernel
theorem d_K_share_15 : decode (ab_bc mt_K_share) 15 = .ok (.iload_n 1, 1) := by decide +kernel
theorem d_K_share_16 : decode (ab_bc mt_K_share) 16 = .ok (.iconst 0, 1) := by decide +kernel
theorem d_K_share_17 : decode (ab_bc mt_K_share) 17 = .ok (.invokevirtual 226, 3) := by decide +kernel
theorem d_K_share_20 : decode (ab_bc mt_K_share) 20 = .ok (.istore_n 2, 1) := by decide +kernel
theorem d_K_share_21 : decode (ab_bc mt_K_share) 21 = .ok (.iload_n 2, 1) := by decide +kernel
theorem d_K_share_22 : decode (ab_bc mt_K_share) 22 = .ok (.iconst (-1), 1) := by decide +kernel
theorem d_K_share_23 : decode (ab_bc mt_K_share) 23 = .ok (.if_icmp .ne 7, 3) := by decide +kernel
theorem d_K_share_26 : decode (ab_bc mt_K_share) 26 = .ok (.iconst (-1), 1) := by decide +kernel
theorem d_K_share_27 : decode (ab_bc mt_K_share) 27 = .ok (.goto 15, 3) := by decide +kernel
theorem d_K_share_30 : decode (ab_bc mt_K_share) 30 = .ok (.aload_n 0, 1) := by decide +kernel
theorem d_K_share_31 : decode (ab_bc mt_K_share) 31 = .ok (.getfield 23, 3) := by decide +kernel
theorem d_K_share_34 : decode (ab_bc mt_K_share) 34 = .ok (.getfield 110, 3) := by decide +kernel
theorem d_K_share_37 : decode (ab_bc mt_K_share) 37 = .ok (.getfield 195, 3) := by decide +kernel
theorem d_K_share_40 : decode (ab_bc mt_K_share) 40 = .ok (.iload_n 2, 1) := by decide +kernel
theorem d_K_share_41 : decode (ab_bc mt_K_share) 41 = .ok (.iaload, 1) := by decide +kernel
theorem d_K_share_42 : decode (ab_bc mt_K_share) 42 = .ok (.ireturn, 1) := by decide +kernel
-- CableKeeper.share(I)I over kx
theorem q_K_share_0 {w : ab_Wd} {d n nc ns : Nat} {I : Nat → Nat → Int32} {L : Nat → Nat → Int64} {res : ab_Re} (v1 : Int32) (hc : nc ≤ res.2.2.2.2.2.1) (hs : ns ≤ res.2.2.2.2.2.2)
    (h : ((ab_C w d mt_K_needSite [.ref kx, .int v1] (I, L, ab_RR, n, nc, ns) (.inl none, (I, L, ab_RR, n, nc, ns)) ∧ ((¬ v1 = 0 → (∃ (r3 : Int32), ab_C w d mt_Ways_firstCable [.ref kx_ways, .int v1, .int 0] (I, L, ab_RR, n, nc, ns) (.inl (some (.int r3)), (I, L, ab_RR, n, nc, ns)) ∧ ((¬ r3 = (-1) → ((vp_in r3 24) ∧ ab_E w (d + 1) mt_K_share 42 [.ref kx, .int v1, .int r3] [.int (I kx_now_cables_price r3.toNatClampNeg)] (I, L, ab_RR, n, nc, ns) res)) ∧ (r3 = (-1) → (ab_E w (d + 1) mt_K_share 42 [.ref kx, .int v1, .int r3] [.int (-1)] (I, L, ab_RR, n, nc, ns) res))))) ∧ (v1 = 0 → (res = (.inl (some (.int 0)), (I, L, ab_RR, n, nc, ns)))))) ∨ (∃ E : String, ab_C w d mt_K_needSite [.ref kx, .int v1] (I, L, ab_RR, n, nc, ns) (.inr E, (I, L, ab_RR, n, nc + 1, ns + 6)) ∧ res = (.inr E, (I, L, ab_RR, n, nc + 1, ns + 6))))) : ab_E w (d + 1) mt_K_share 0 [.ref kx, .int v1, .null] [] (I, L, ab_RR, n, nc, ns) res := by
  refine ab_aload_n (i := 0) d_K_share_0 rfl rfl ?_
  refine ab_iload_n (i := 1) d_K_share_1 rfl rfl ?_
  rcases h with ⟨hC, h⟩ | ⟨E9, hC, h⟩
  · refine ab_callV (me2 := mt_K_needSite) (b := kx) (as := [.int v1]) (st := []) (rv := none) (M2 := (I, L, ab_RR, n, nc, ns)) d_K_share_2 ce_K_needSite v_1124 v_1126 v_49 (by decide) rfl (Nat.le_of_ble_eq_true rfl) hC (Nat.le_refl _) (Nat.le_refl _) hc hs (fun j h9 => by cases h9) (fun _ _ => rfl) ?_
    show ab_E w (d + 1) mt_K_share 5 [.ref kx, .int v1, .null] [] (I, L, ab_RR, n, nc, ns) res
    refine ab_iload_n (i := 1) d_K_share_5 rfl rfl ?_
    refine ab_if_ne (tgt := 11) d_K_share_6 (by decide) (fun c2 => ?_) (fun c2 => ?_)
    · have h := h.1 c2
      refine ab_aload_n (i := 0) d_K_share_11 rfl rfl ?_
      refine ab_getR (ci := 10) (k := 7) (j := kx_ways) d_K_share_12 v_479 rfl (by decide) (by decide) rfl r_kx_7 ?_
      refine ab_iload_n (i := 1) d_K_share_15 rfl rfl ?_
      refine ab_iconst (v := 0) d_K_share_16 rfl ?_
      obtain ⟨r3, hC, h⟩ := h
      refine ab_callV (me2 := mt_Ways_firstCable) (b := kx_ways) (as := [.int v1, .int 0]) (st := []) (rv := (some (.int r3))) (M2 := (I, L, ab_RR, n, nc, ns)) d_K_share_17 ce_Ways_firstCable v_1004 v_1005 v_1006 (by decide) rfl (Nat.le_of_ble_eq_true rfl) hC (Nat.le_refl _) (Nat.le_refl _) hc hs (fun j h9 => by cases h9) (fun _ _ => rfl) ?_
      show ab_E w (d + 1) mt_K_share 20 [.ref kx, .int v1, .null] [.int r3] (I, L, ab_RR, n, nc, ns) res
      refine ab_istore_n (i := 2) d_K_share_20 rfl (by decide) (Or.inr rfl) ?_
      refine ab_iload_n (i := 2) d_K_share_21 rfl rfl ?_
      refine ab_iconst (v := (-1)) d_K_share_22 rfl ?_
      refine ab_icmp_ne (tgt := 30) d_K_share_23 (by decide) (fun c4 => ?_) (fun c4 => ?_)
      · have h := h.1 c4
        refine ab_aload_n (i := 0) d_K_share_30 rfl rfl ?_
        refine ab_getR (ci := 10) (k := 3) (j := kx_now) d_K_share_31 v_475 rfl (by decide) (by decide) rfl r_kx_3 ?_
        refine ab_getR (ci := 6) (k := 0) (j := kx_now_cables) d_K_share_34 v_294 rfl (by decide) (by decide) rfl r_kx_now_0 ?_
        refine ab_getR (ci := 1) (k := 5) (j := kx_now_cables_price) d_K_share_37 v_224 rfl (by decide) (by decide) rfl r_kx_now_cables_5 ?_
        refine ab_iload_n (i := 2) d_K_share_40 rfl rfl ?_
        have g5 := h.1; have h := h.2
        refine ab_iald d_K_share_41 rfl rfl g5 ?_
        exact h
      · have h := h.2 c4
        refine ab_iconst (v := (-1)) d_K_share_26 rfl ?_
        refine ab_goto (tgt := 42) d_K_share_27 (by decide) ?_
        exact h
    · have h := h.2 c2
      refine ab_iconst (v := 0) d_K_share_9 rfl ?_
      exact ab_iret (ty := .int) d_K_share_10 rfl rfl h
  · exact ab_callVX (me2 := mt_K_needSite) (b := kx) (as := [.int v1]) (st := []) (M2 := (I, L, ab_RR, n, nc + 1, ns + 6)) rfl d_K_share_2 ce_K_needSite v_1124 v_1126 v_49 (by decide) rfl (Nat.le_of_ble_eq_true rfl) hC (Nat.le_succ _) (Nat.le_add_right _ _) (fun _ _ => rfl) h
theorem q_K_share_42 {w : ab_Wd} {d n nc ns : Nat} {I : Nat → Nat → Int32} {L : Nat → Nat → Int64} {res : ab_Re} (v1 : Int32) (v2 : Int32) (s0 : Int32) (hc : nc ≤ res.2.2.2.2.2.1) (hs : ns ≤ res.2.2.2.2.2.2)
    (h : res = (.inl (some (.int s0)), (I, L, ab_RR, n, nc, ns))) : ab_E w (d + 1) mt_K_share 42 [.ref kx, .int v1, .int v2] [.int s0] (I, L, ab_RR, n, nc, ns) res := by
  exact ab_iret (ty := .int) d_K_share_42 rfl rfl h
theorem d_K_group_0 : decode (ab_bc mt_K_group) 0 = .ok (.aload_n 0, 1) := by decide +kernel
theorem d_K_group_1 : decode (ab_bc mt_K_group) 1 = .ok (.getfield 23, 3) := by decide +kernel
theorem d_K_group_4 : decode (ab_bc mt_K_group) 4 = .ok (.getfield 110, 3) := by decide +kernel
theorem d_K_group_7 : decode (ab_bc mt_K_group) 7 = .ok (.astore_n 3, 1) := by decide +kernel
theorem d_K_group_8 : decode (ab_bc mt_K_group) 8 = .ok (.iload_n 1, 1) := by decide +kernel
theorem d_K_group_9 : decode (ab_bc mt_K_group) 9 = .ok (.iconst 1, 1) := by decide +kernel
theorem d_K_group_10 : decode (ab_bc mt_K_group) 10 = .ok (.if_icmp .lt 11, 3) := by decide +kernel
theorem d_K_group_13 : decode (ab_bc mt_K_group) 13 = .ok (.iload_n 1, 1) := by decide +kernel
theorem d_K_group_14 : decode (ab_bc mt_K_group) 14 = .ok (.aload_n 3, 1) := by decide +kernel
theorem d_K_group_15 : decode (ab_bc mt_K_group) 15 = .ok (.getfield 113, 3) := by decide +kernel
theorem d_K_group_18 : decode (ab_bc mt_K_group) 18 = .ok (.if_icmp .le 11, 3) := by decide +kernel
theorem d_K_group_21 : decode (ab_bc mt_K_group) 21 = .ok (.new 90, 3) := by decide +kernel
theorem d_K_group_24 : decode (ab_bc mt_K_group) 24 = .ok (.dup, 1) := by decide +kernel
theorem d_K_group_25 : decode (ab_bc mt_K_group) 25 = .ok (.invokespecial 92, 3) := by decide +kernel
theorem d_K_group_28 : decode (ab_bc mt_K_group) 28 = .ok (.athrow, 1) := by decide +kernel
theorem d_K_group_29 : decode (ab_bc mt_K_group) 29 = .ok (.aload_n 0, 1) := by decide +kernel
theorem d_K_group_30 : decode (ab_bc mt_K_group) 30 = .ok (.getfield 37, 3) := by decide +kernel
theorem d_K_group_33 : decode (ab_bc mt_K_group) 33 = .ok (.getfield 233, 3) := by decide +kernel
theorem d_K_group_36 : decode (ab_bc mt_K_group) 36 = .ok (.aload_n 3, 1) := by decide +kernel
theorem d_K_group_37 : decode (ab_bc mt_K_group) 37 = .ok (.getfield 113, 3) := by decide +kernel
theorem d_K_group_40 : decode (ab_bc mt_K_group) 40 = .ok (.iload_n 1, 1) := by decide +kernel
theorem d_K_group_41 : decode (ab_bc mt_K_group) 41 = .ok (.isub, 1) := by decide +kernel
theorem d_K_group_42 : decode (ab_bc mt_K_group) 42 = .ok (.invokestatic 279, 3) := by decide +kernel
theorem d_K_group_45 : decode (ab_bc mt_K_group) 45 = .ok (.istore 4, 2) := by decide +kernel
theorem d_K_group_47 : decode (ab_bc mt_K_group) 47 = .ok (.iload_n 2, 1) := by decide +kernel
theorem d_K_group_48 : decode (ab_bc mt_K_group) 48 = .ok (.iconst (-1), 1) := by decide +kernel
theorem d_K_group_49 : decode (ab_bc mt_K_group) 49 = .ok (.if_icmp .ne 35, 3) := by decide +kernel
theorem d_K_group_52 : decode (ab_bc mt_K_group) 52 = .ok (.iload 4, 2) := by decide +kernel
theorem d_K_group_54 : decode (ab_bc mt_K_group) 54 = .ok (.aload_n 0, 1) := by decide +kernel
theorem d_K_group_55 : decode (ab_bc mt_K_group) 55 = .ok (.getfield 37, 3) := by decide +kernel
theorem d_K_group_58 : decode (ab_bc mt_K_group) 58 = .ok (.getfield 233, 3) := by decide +kernel
theorem d_K_group_61 : decode (ab_bc mt_K_group) 61 = .ok (.if_icmp .ne 7, 3) := by decide +kernel
theorem d_K_group_64 : decode (ab_bc mt_K_group) 64 = .ok (.iconst 0, 1) := by decide +kernel
theorem d_K_group_65 : decode (ab_bc mt_K_group) 65 = .ok (.goto 18, 3) := by decide +kernel
theorem d_K_group_68 : decode (ab_bc mt_K_group) 68 = .ok (.aload_n 3, 1) := by decide +kernel
theorem d_K_group_69 : decode (ab_bc mt_K_group) 69 = .ok (.getfield 195, 3) := by decide +kernel
theorem d_K_group_72 : decode (ab_bc mt_K_group) 72 = .ok (.aload_n 0, 1) := by decide +kernel
theorem d_K_group_73 : decode (ab_bc mt_K_group) 73 = .ok (.getfield 37, 3) := by decide +kernel
theorem d_K_group_76 : decode (ab_bc mt_K_group) 76 = .ok (.getfield 236, 3) := by decide +kernel
theorem d_K_group_79 : decode (ab_bc mt_K_group) 79 = .ok (.iload 4, 2) := by decide +kernel
theorem d_K_group_81 : decode (ab_bc mt_K_group) 81 = .ok (.iaload, 1) := by decide +kernel
theorem d_K_group_82 : decode (ab_bc mt_K_group) 82 = .ok (.iaload, 1) := by decide +kernel
theorem d_K_group_83 : decode (ab_bc mt_K_group) 83 = .ok (.ireturn, 1) := by decide +kernel
theorem d_K_group_84 : decode (ab_bc mt_K_group) 84 = .ok (.aload_n 0, 1) := by decide +kernel
theorem d_K_group_85 : decode (ab_bc mt_K_group) 85 = .ok (.iload_n 2, 1) := by decide +kernel
theorem d_K_group_86 : decode (ab_bc mt_K_group) 86 = .ok (.invokevirtual 239, 3) := by decide +kernel
theorem d_K_group_89 : decode (ab_bc mt_K_group) 89 = .ok (.aload_n 0, 1) := by decide +kernel
theorem d_K_group_90 : decode (ab_bc mt_K_group) 90 = .ok (.getfield 55, 3) := by decide +kernel
theorem d_K_group_93 : decode (ab_bc mt_K_group) 93 = .ok (.aload_n 3, 1) := by decide +kernel
theorem d_K_group_94 : decode (ab_bc mt_K_group) 94 = .ok (.aload_n 0, 1) := by decide +kernel
theorem d_K_group_95 : decode (ab_bc mt_K_group) 95 = .ok (.getfield 37, 3) := by decide +kernel
theorem d_K_group_98 : decode (ab_bc mt_K_group) 98 = .ok (.iload 4, 2) := by decide +kernel
theorem d_K_group_100 : decode (ab_bc mt_K_group) 100 = .ok (.invokevirtual 284, 3) := by decide +kernel
theorem d_K_group_103 : decode (ab_bc mt_K_group) 103 = .ok (.invokevirtual 287, 3) := by decide +kernel
theorem d_K_group_106 : decode (ab_bc mt_K_group) 106 = .ok (.aload_n 0, 1) := by decide +kernel
theorem d_K_group_107 : decode (ab_bc mt_K_group) 107 = .ok (.getfield 55, 3) := by decide +kernel
theorem d_K_group_110 : decode (ab_bc mt_K_group) 110 = .ok (.getfield 245, 3) := by decide +kernel
theorem d_K_group_113 : decode (ab_bc mt_K_group) 113 = .ok (.iload_n 2, 1) := by decide +kernel
theorem d_K_group_114 : decode (ab_bc mt_K_group) 114 = .ok (.iaload, 1) := by decide +kernel
theorem d_K_group_115 : decode (ab_bc mt_K_group) 115 = .ok (.ireturn, 1) := by decide +kernel
-- CableKeeper.group(II)I over kx
theorem q_K_group_0 {w : ab_Wd} {d n nc ns : Nat} {I : Nat → Nat → Int32} {L : Nat → Nat → Int64} {res : ab_Re} (v1 : Int32) (v2 : Int32) (h8 : 8 ≤ (d + 1)) (hc : nc ≤ res.2.2.2.2.2.1) (hs : ns ≤ res.2.2.2.2.2.2)
    (h : ((v1 < 1 → (ab_E w (d + 1) mt_K_group 21 [.ref kx, .int v1, .int v2, .ref kx_now_cables, .null] [] (I, L, ab_RR, n, nc, ns) res)) ∧ (¬ v1 < 1 → ((v1 ≤ (I kx_now_cables 0) → ((¬ v2 = (-1) → ((ab_C w d mt_K_needSite [.ref kx, .int v2] (I, L, ab_RR, n, nc, ns) (.inl none, (I, L, ab_RR, n, nc, ns)) ∧ (∃ (r5 : Int32), ab_C w d mt_Forest_cheapest [.ref kx_forest, .int (ab_min32 (I kx_forest 1) ((I kx_now_cables 0) - v1))] (I, L, ab_RR, n, nc, ns) (.inl (some (.int r5)), (I, L, ab_RR, n, nc, ns)) ∧ ∃ (I7 : Nat → Nat → Int32), ab_C w d mt_Forest_grow [.ref kx_trialNet, .ref kx_now_cables, .int r5] (I, L, ab_RR, n, nc, ns) (.inl none, (I7, L, ab_RR, n, nc, ns)) ∧ (vp_in v2 10) ∧ res = (.inl (some (.int (I7 kx_trialNet_piece v2.toNatClampNeg))), (I7, L, ab_RR, n, nc, ns)))) ∨ (∃ E : String, ab_C w d mt_K_needSite [.ref kx, .int v2] (I, L, ab_RR, n, nc, ns) (.inr E, (I, L, ab_RR, n, nc + 1, ns + 6)) ∧ res = (.inr E, (I, L, ab_RR, n, nc + 1, ns + 6))))) ∧ (v2 = (-1) → ((¬ (ab_min32 (I kx_forest 1) ((I kx_now_cables 0) - v1)) = (I kx_forest 1) → ((vp_in (ab_min32 (I kx_forest 1) ((I kx_now_cables 0) - v1)) 9) ∧ (vp_in (I kx_forest_order (ab_min32 (I kx_forest 1) ((I kx_now_cables 0) - v1)).toNatClampNeg) 24) ∧ ab_E w (d + 1) mt_K_group 83 [.ref kx, .int v1, .int v2, .ref kx_now_cables, .int (ab_min32 (I kx_forest 1) ((I kx_now_cables 0) - v1))] [.int (I kx_now_cables_price (I kx_forest_order (ab_min32 (I kx_forest 1) ((I kx_now_cables 0) - v1)).toNatClampNeg).toNatClampNeg)] (I, L, ab_RR, n, nc, ns) res)) ∧ ((ab_min32 (I kx_forest 1) ((I kx_now_cables 0) - v1)) = (I kx_forest 1) → (ab_E w (d + 1) mt_K_group 83 [.ref kx, .int v1, .int v2, .ref kx_now_cables, .int (ab_min32 (I kx_forest 1) ((I kx_now_cables 0) - v1))] [.int 0] (I, L, ab_RR, n, nc, ns) res)))))) ∧ (¬ v1 ≤ (I kx_now_cables 0) → (ab_E w (d + 1) mt_K_group 21 [.ref kx, .int v1, .int v2, .ref kx_now_cables, .null] [] (I, L, ab_RR, n, nc, ns) res)))))) : ab_E w (d + 1) mt_K_group 0 [.ref kx, .int v1, .int v2, .null, .null] [] (I, L, ab_RR, n, nc, ns) res := by
  refine ab_aload_n (i := 0) d_K_group_0 rfl rfl ?_
  refine ab_getR (ci := 10) (k := 3) (j := kx_now) d_K_group_1 v_475 rfl (by decide) (by decide) rfl r_kx_3 ?_
  refine ab_getR (ci := 6) (k := 0) (j := kx_now_cables) d_K_group_4 v_294 rfl (by decide) (by decide) rfl r_kx_now_0 ?_
  refine ab_astore_n (i := 3) d_K_group_7 rfl (by decide) (Or.inr rfl) ?_
  refine ab_iload_n (i := 1) d_K_group_8 rfl rfl ?_
  refine ab_iconst (v := 1) d_K_group_9 rfl ?_
  refine ab_icmp_lt (tgt := 21) d_K_group_10 (by decide) (fun c1 => ?_) (fun c1 => ?_)
  · have h := h.1 c1
    exact h
  · have h := h.2 c1
    refine ab_iload_n (i := 1) d_K_group_13 rfl rfl ?_
    refine ab_aload_n (i := 3) d_K_group_14 rfl rfl ?_
    refine ab_getI (ci := 1) (k := 0) d_K_group_15 v_190 rfl (by decide) (by decide) rfl ?_
    refine ab_icmp_le (tgt := 29) d_K_group_18 (by decide) (fun c2 => ?_) (fun c2 => ?_)
    · have h := h.1 c2
      refine ab_aload_n (i := 0) d_K_group_29 rfl rfl ?_
      refine ab_getR (ci := 10) (k := 6) (j := kx_forest) d_K_group_30 v_478 rfl (by decide) (by decide) rfl r_kx_6 ?_
      refine ab_getI (ci := 2) (k := 1) d_K_group_33 v_333 rfl (by decide) (by decide) rfl ?_
      refine ab_aload_n (i := 3) d_K_group_36 rfl rfl ?_
      refine ab_getI (ci := 1) (k := 0) d_K_group_37 v_190 rfl (by decide) (by decide) rfl ?_
      refine ab_iload_n (i := 1) d_K_group_40 rfl rfl ?_
      refine ab_isub d_K_group_41 ?_
      refine ab_min d_K_group_42 v_447 v_448 v_150 v_449 (Nat.succ_le_succ (Nat.zero_le _)) (Nat.le_of_ble_eq_true rfl) hc hs ?_
      refine ab_istore (i := 4) d_K_group_45 (by decide) (Or.inr rfl) ?_
      refine ab_iload_n (i := 2) d_K_group_47 rfl rfl ?_
      refine ab_iconst (v := (-1)) d_K_group_48 rfl ?_
      refine ab_icmp_ne (tgt := 84) d_K_group_49 (by decide) (fun c3 => ?_) (fun c3 => ?_)
      · have h := h.1 c3
        refine ab_aload_n (i := 0) d_K_group_84 rfl rfl ?_
        refine ab_iload_n (i := 2) d_K_group_85 rfl rfl ?_
        rcases h with ⟨hC, h⟩ | ⟨E9, hC, h⟩
        · refine ab_callV (me2 := mt_K_needSite) (b := kx) (as := [.int v2]) (st := []) (rv := none) (M2 := (I, L, ab_RR, n, nc, ns)) d_K_group_86 ce_K_needSite v_1124 v_1126 v_49 (by decide) rfl (Nat.le_of_ble_eq_true rfl) hC (Nat.le_refl _) (Nat.le_refl _) hc hs (fun j h9 => by cases h9) (fun _ _ => rfl) ?_
          show ab_E w (d + 1) mt_K_group 89 [.ref kx, .int v1, .int v2, .ref kx_now_cables, .int (ab_min32 (I kx_forest 1) ((I kx_now_cables 0) - v1))] [] (I, L, ab_RR, n, nc, ns) res
          refine ab_aload_n (i := 0) d_K_group_89 rfl rfl ?_
          refine ab_getR (ci := 10) (k := 9) (j := kx_trialNet) d_K_group_90 v_481 rfl (by decide) (by decide) rfl r_kx_9 ?_
          refine ab_aload_n (i := 3) d_K_group_93 rfl rfl ?_
          refine ab_aload_n (i := 0) d_K_group_94 rfl rfl ?_
          refine ab_getR (ci := 10) (k := 6) (j := kx_forest) d_K_group_95 v_478 rfl (by decide) (by decide) rfl r_kx_6 ?_
          refine ab_iload (i := 4) d_K_group_98 rfl ?_
          obtain ⟨r5, hC, h⟩ := h
          refine ab_callV (me2 := mt_Forest_cheapest) (b := kx_forest) (as := [.int (ab_min32 (I kx_forest 1) ((I kx_now_cables 0) - v1))]) (st := [.ref kx_now_cables, .ref kx_trialNet]) (rv := (some (.int r5))) (M2 := (I, L, ab_RR, n, nc, ns)) d_K_group_100 ce_Forest_cheapest v_1201 v_1202 v_1203 (by decide) rfl (Nat.le_of_ble_eq_true rfl) hC (Nat.le_refl _) (Nat.le_refl _) hc hs (fun j h9 => by cases h9) (fun _ _ => rfl) ?_
          show ab_E w (d + 1) mt_K_group 103 [.ref kx, .int v1, .int v2, .ref kx_now_cables, .int (ab_min32 (I kx_forest 1) ((I kx_now_cables 0) - v1))] [.int r5, .ref kx_now_cables, .ref kx_trialNet] (I, L, ab_RR, n, nc, ns) res
          obtain ⟨I7, hC, h⟩ := h
          refine ab_callV (me2 := mt_Forest_grow) (b := kx_trialNet) (as := [.ref kx_now_cables, .int r5]) (st := []) (rv := none) (M2 := (I7, L, ab_RR, n, nc, ns)) d_K_group_103 ce_Forest_grow v_440 v_441 v_442 (by decide) rfl (Nat.le_of_ble_eq_true rfl) hC (Nat.le_refl _) (Nat.le_refl _) hc hs (fun j h9 => by cases h9) (fun _ _ => rfl) ?_
          show ab_E w (d + 1) mt_K_group 106 [.ref kx, .int v1, .int v2, .ref kx_now_cables, .int (ab_min32 (I kx_forest 1) ((I kx_now_cables 0) - v1))] [] (I7, L, ab_RR, n, nc, ns) res
          refine ab_aload_n (i := 0) d_K_group_106 rfl rfl ?_
          refine ab_getR (ci := 10) (k := 9) (j := kx_trialNet) d_K_group_107 v_481 rfl (by decide) (by decide) rfl r_kx_9 ?_
          refine ab_getR (ci := 2) (k := 5) (j := kx_trialNet_piece) d_K_group_110 v_341 rfl (by decide) (by decide) rfl r_kx_trialNet_5 ?_
          refine ab_iload_n (i := 2) d_K_group_113 rfl rfl ?_
          have g8 := h.1; have h := h.2
          refine ab_iald d_K_group_114 rfl rfl g8 ?_
          exact ab_iret (ty := .int) d_K_group_115 rfl rfl h
        · exact ab_callVX (me2 := mt_K_needSite) (b := kx) (as := [.int v2]) (st := []) (M2 := (I, L, ab_RR, n, nc + 1, ns + 6)) rfl d_K_group_86 ce_K_needSite v_1124 v_1126 v_49 (by decide) rfl (Nat.le_of_ble_eq_true rfl) hC (Nat.le_succ _) (Nat.le_add_right _ _) (fun _ _ => rfl) h
      · have h := h.2 c3
        refine ab_iload (i := 4) d_K_group_52 rfl ?_
        refine ab_aload_n (i := 0) d_K_group_54 rfl rfl ?_
        refine ab_getR (ci := 10) (k := 6) (j := kx_forest) d_K_group_55 v_478 rfl (by decide) (by decide) rfl r_kx_6 ?_
        refine ab_getI (ci := 2) (k := 1) d_K_group_58 v_333 rfl (by decide) (by decide) rfl ?_
        refine ab_icmp_ne (tgt := 68) d_K_group_61 (by decide) (fun c9 => ?_) (fun c9 => ?_)
        · have h := h.1 c9
          refine ab_aload_n (i := 3) d_K_group_68 rfl rfl ?_
          refine ab_getR (ci := 1) (k := 5) (j := kx_now_cables_price) d_K_group_69 v_224 rfl (by decide) (by decide) rfl r_kx_now_cables_5 ?_
          refine ab_aload_n (i := 0) d_K_group_72 rfl rfl ?_
          refine ab_getR (ci := 10) (k := 6) (j := kx_forest) d_K_group_73 v_478 rfl (by decide) (by decide) rfl r_kx_6 ?_
          refine ab_getR (ci := 2) (k := 0) (j := kx_forest_order) d_K_group_76 v_330 rfl (by decide) (by decide) rfl r_kx_forest_0 ?_
          refine ab_iload (i := 4) d_K_group_79 rfl ?_
          have g10 := h.1; have h := h.2
          refine ab_iald d_K_group_81 rfl rfl g10 ?_
          have g11 := h.1; have h := h.2
          refine ab_iald d_K_group_82 rfl rfl g11 ?_
          exact h
        · have h := h.2 c9
          refine ab_iconst (v := 0) d_K_group_64 rfl ?_
          refine ab_goto (tgt := 83) d_K_group_65 (by decide) ?_
          exact h
    · have h := h.2 c2
      exact h
theorem q_K_group_21 {w : ab_Wd} {d n nc ns : Nat} {I : Nat → Nat → Int32} {L : Nat → Nat → Int64} {res : ab_Re} (v1 : Int32) (v2 : Int32) (h8 : 8 ≤ (d + 1)) (hc : nc ≤ res.2.2.2.2.2.1) (hs : ns ≤ res.2.2.2.2.2.2)
    (h : res = (.inr "java/lang/IllegalArgumentException", (I, L, ab_RR, n, nc + 1, ns + 6))) : ab_E w (d + 1) mt_K_group 21 [.ref kx, .int v1, .int v2, .ref kx_now_cables, .null] [] (I, L, ab_RR, n, nc, ns) res := by
  exact ab_throw (E := "java/lang/IllegalArgumentException") d_K_group_21 d_K_group_24 d_K_group_25 d_K_group_28 (by decide +kernel) rfl v_698 v_155 x3_K_92 x4_K_92 h8 (Nat.le_of_ble_eq_true rfl) h
theorem q_K_group_83 {w : ab_Wd} {d n nc ns : Nat} {I : Nat → Nat → Int32} {L : Nat → Nat → Int64} {res : ab_Re} (v1 : Int32) (v2 : Int32) (v4 : Int32) (s0 : Int32) (h8 : 8 ≤ (d + 1)) (hc : nc ≤ res.2.2.2.2.2.1) (hs : ns ≤ res.2.2.2.2.2.2)
    (h : res = (.inl (some (.int s0)), (I, L, ab_RR, n, nc, ns))) : ab_E w (d + 1) mt_K_group 83 [.ref kx, .int v1, .int v2, .ref kx_now_cables, .int v4] [.int s0] (I, L, ab_RR, n, nc, ns) res := by
  exact ab_iret (ty := .int) d_K_group_83 rfl rfl h
theorem d_K_without_0 : decode (ab_bc mt_K_without) 0 = .ok (.aload_n 0, 1) := by decide +kernel
theorem d_K_without_1 : decode (ab_bc mt_K_without) 1 = .ok (.iload_n 1, 1) := by decide +kernel
theorem d_K_without_2 : decode (ab_bc mt_K_without) 2 = .ok (.invokevirtual 239, 3) := by decide +kernel
theorem d_K_without_5 : decode (ab_bc mt_K_without) 5 = .ok (.aload_n 0, 1) := by decide +kernel
theorem d_K_without_6 : decode (ab_bc mt_K_without) 6 = .ok (.getfield 55, 3) := by decide +kernel
theorem d_K_without_9 : decode (ab_bc mt_K_without) 9 = .ok (.aload_n 0, 1) := by decide +kernel
theorem d_K_without_10 : decode (ab_bc mt_K_without) 10 = .ok (.getfield 23, 3) := by decide +kernel
theorem d_K_without_13 : decode (ab_bc mt_K_without) 13 = .ok (.getfield 110, 3) := by decide +kernel
theorem d_K_without_16 : decode (ab_bc mt_K_without) 16 = .ok (.aload_n 0, 1) := by decide +kernel
theorem d_K_without_17 : decode (ab_bc mt_K_without) 17 = .ok (.getfield 23, 3) := by decide +kernel
theorem d_K_without_20 : decode (ab_bc mt_K_without) 20 = .ok (.getfield 110, 3) := by decide +kernel
theorem d_K_without_23 : decode (ab_bc mt_K_without) 23 = .ok (.getfield 119, 3) := by decide +kernel
theorem d_K_without_26 : decode (ab_bc mt_K_without) 26 = .ok (.aload_n 0, 1) := by decide +kernel
theorem d_K_without_27 : decode (ab_bc mt_K_without) 27 = .ok (.getfield 23, 3) := by decide +kernel
theorem d_K_without_30 : decode (ab_bc mt_K_without) 30 = .ok (.getfield 110, 3) := by decide +kernel
theorem d_K_without_33 : decode (ab_bc mt_K_without) 33 = .ok (.iload_n 1, 1) := by decide +kernel
theorem d_K_without_34 : decode (ab_bc mt_K_without) 34 = .ok (.invokevirtual 291, 3) := by decide +kernel
theorem d_K_without_37 : decode (ab_bc mt_K_without) 37 = .ok (.iconst (-1), 1) := by decide +kernel
theorem d_K_without_38 : decode (ab_bc mt_K_without) 38 = .ok (.ixor, 1) := by decide +kernel
theorem d_K_without_39 : decode (ab_bc mt_K_without) 39 = .ok (.iand, 1) := by decide +kernel
theorem d_K_without_40 : decode (ab_bc mt_K_without) 40 = .ok (.invokevirtual 287, 3) := by decide +kernel
theorem d_K_without_43 : decode (ab_bc mt_K_without) 43 = .ok (.iload_n 2, 1) := by decide +kernel
theorem d_K_without_44 : decode (ab_bc mt_K_without) 44 = .ok (.lookupswitch 46 #[(0, 28), (1, 36)], 28) := by decide +kernel
theorem d_K_without_72 : decode (ab_bc mt_K_without) 72 = .ok (.aload_n 0, 1) := by decide +kernel
theorem d_K_without_73 : decode (ab_bc mt_K_without) 73 = .ok (.getfield 55, 3) := by decide +kernel
theorem d_K_without_76 : decode (ab_bc mt_K_without) 76 = .ok (.getfield 125, 3) := by decide +kernel
theorem d_K_without_79 : decode (ab_bc mt_K_without) 79 = .ok (.ireturn, 1) := by decide +kernel
theorem d_K_without_80 : decode (ab_bc mt_K_without) 80 = .ok (.aload_n 0, 1) := by decide +kernel
theorem d_K_without_81 : decode (ab_bc mt_K_without) 81 = .ok (.getfield 55, 3) := by decide +kernel
theorem d_K_without_84 : decode (ab_bc mt_K_without) 84 = .ok (.getfield 128, 3) := by decide +kernel
theorem d_K_without_87 : decode (ab_bc mt_K_without) 87 = .ok (.iconst 1, 1) := by decide +kernel
theorem d_K_without_88 : decode (ab_bc mt_K_without) 88 = .ok (.isub, 1) := by decide +kernel
theorem d_K_without_89 : decode (ab_bc mt_K_without) 89 = .ok (.ireturn, 1) := by decide +kernel
theorem d_K_without_90 : decode (ab_bc mt_K_without) 90 = .ok (.new 183, 3) := by decide +kernel
theorem d_K_without_93 : decode (ab_bc mt_K_without) 93 = .ok (.dup, 1) := by decide +kernel
theorem d_K_without_94 : decode (ab_bc mt_K_without) 94 = .ok (.invokespecial 185, 3) := by decide +kernel
theorem d_K_without_97 : decode (ab_bc mt_K_without) 97 = .ok (.athrow, 1) := by decide +kernel
-- CableKeeper.without(II)I over kx
theorem q_K_without_0 {w : ab_Wd} {d n nc ns : Nat} {I : Nat → Nat → Int32} {L : Nat → Nat → Int64} {res : ab_Re} (v1 : Int32) (v2 : Int32) (h8 : 8 ≤ (d + 1)) (hc : nc ≤ res.2.2.2.2.2.1) (hs : ns ≤ res.2.2.2.2.2.2)
    (h : ((ab_C w d mt_K_needSite [.ref kx, .int v1] (I, L, ab_RR, n, nc, ns) (.inl none, (I, L, ab_RR, n, nc, ns)) ∧ (∃ (r2 : Int32), ab_C w d mt_Cables_endingAt [.ref kx_now_cables, .int v1] (I, L, ab_RR, n, nc, ns) (.inl (some (.int r2)), (I, L, ab_RR, n, nc, ns)) ∧ ∃ (I4 : Nat → Nat → Int32), ab_C w d mt_Forest_grow [.ref kx_trialNet, .ref kx_now_cables, .int ((I kx_now_cables 2) &&& (r2 ^^^ (-1)))] (I, L, ab_RR, n, nc, ns) (.inl none, (I4, L, ab_RR, n, nc, ns)) ∧ ((v2 = 0 → (res = (.inl (some (.int (I4 kx_trialNet 3))), (I4, L, ab_RR, n, nc, ns)))) ∧ (v2 = 1 → (res = (.inl (some (.int ((I4 kx_trialNet 4) - 1))), (I4, L, ab_RR, n, nc, ns)))) ∧ (¬ v2 = 0 ∧ ¬ v2 = 1 → (res = (.inr "java/util/NoSuchElementException", (I4, L, ab_RR, n, nc + 1, ns + 6))))))) ∨ (∃ E : String, ab_C w d mt_K_needSite [.ref kx, .int v1] (I, L, ab_RR, n, nc, ns) (.inr E, (I, L, ab_RR, n, nc + 1, ns + 6)) ∧ res = (.inr E, (I, L, ab_RR, n, nc + 1, ns + 6))))) : ab_E w (d + 1) mt_K_without 0 [.ref kx, .int v1, .int v2] [] (I, L, ab_RR, n, nc, ns) res := by
  refine ab_aload_n (i := 0) d_K_without_0 rfl rfl ?_
  refine ab_iload_n (i := 1) d_K_without_1 rfl rfl ?_
  rcases h with ⟨hC, h⟩ | ⟨E9, hC, h⟩
  · refine ab_callV (me2 := mt_K_needSite) (b := kx) (as := [.int v1]) (st := []) (rv := none) (M2 := (I, L, ab_RR, n, nc, ns)) d_K_without_2 ce_K_needSite v_1124 v_1126 v_49 (by decide) rfl (Nat.le_of_ble_eq_true rfl) hC (Nat.le_refl _) (Nat.le_refl _) hc hs (fun j h9 => by cases h9) (fun _ _ => rfl) ?_
    show ab_E w (d + 1) mt_K_without 5 [.ref kx, .int v1, .int v2] [] (I, L, ab_RR, n, nc, ns) res
    refine ab_aload_n (i := 0) d_K_without_5 rfl rfl ?_
    refine ab_getR (ci := 10) (k := 9) (j := kx_trialNet) d_K_without_6 v_481 rfl (by decide) (by decide) rfl r_kx_9 ?_
    refine ab_aload_n (i := 0) d_K_without_9 rfl rfl ?_
    refine ab_getR (ci := 10) (k := 3) (j := kx_now) d_K_without_10 v_475 rfl (by decide) (by decide) rfl r_kx_3 ?_
    refine ab_getR (ci := 6) (k := 0) (j := kx_now_cables) d_K_without_13 v_294 rfl (by decide) (by decide) rfl r_kx_now_0 ?_
    refine ab_aload_n (i := 0) d_K_without_16 rfl rfl ?_
    refine ab_getR (ci := 10) (k := 3) (j := kx_now) d_K_without_17 v_475 rfl (by decide) (by decide) rfl r_kx_3 ?_
    refine ab_getR (ci := 6) (k := 0) (j := kx_now_cables) d_K_without_20 v_294 rfl (by decide) (by decide) rfl r_kx_now_0 ?_
    refine ab_getI (ci := 1) (k := 2) d_K_without_23 v_202 rfl (by decide) (by decide) rfl ?_
    refine ab_aload_n (i := 0) d_K_without_26 rfl rfl ?_
    refine ab_getR (ci := 10) (k := 3) (j := kx_now) d_K_without_27 v_475 rfl (by decide) (by decide) rfl r_kx_3 ?_
    refine ab_getR (ci := 6) (k := 0) (j := kx_now_cables) d_K_without_30 v_294 rfl (by decide) (by decide) rfl r_kx_now_0 ?_
    refine ab_iload_n (i := 1) d_K_without_33 rfl rfl ?_
    obtain ⟨r2, hC, h⟩ := h
    refine ab_callV (me2 := mt_Cables_endingAt) (b := kx_now_cables) (as := [.int v1]) (st := [.int (I kx_now_cables 2), .ref kx_now_cables, .ref kx_trialNet]) (rv := (some (.int r2))) (M2 := (I, L, ab_RR, n, nc, ns)) d_K_without_34 ce_Cables_endingAt v_960 v_961 v_962 (by decide) rfl (Nat.le_of_ble_eq_true rfl) hC (Nat.le_refl _) (Nat.le_refl _) hc hs (fun j h9 => by cases h9) (fun _ _ => rfl) ?_
    show ab_E w (d + 1) mt_K_without 37 [.ref kx, .int v1, .int v2] [.int r2, .int (I kx_now_cables 2), .ref kx_now_cables, .ref kx_trialNet] (I, L, ab_RR, n, nc, ns) res
    refine ab_iconst (v := (-1)) d_K_without_37 rfl ?_
    refine ab_ixor d_K_without_38 ?_
    refine ab_iand d_K_without_39 ?_
    obtain ⟨I4, hC, h⟩ := h
    refine ab_callV (me2 := mt_Forest_grow) (b := kx_trialNet) (as := [.ref kx_now_cables, .int ((I kx_now_cables 2) &&& (r2 ^^^ (-1)))]) (st := []) (rv := none) (M2 := (I4, L, ab_RR, n, nc, ns)) d_K_without_40 ce_Forest_grow v_440 v_441 v_442 (by decide) rfl (Nat.le_of_ble_eq_true rfl) hC (Nat.le_refl _) (Nat.le_refl _) hc hs (fun j h9 => by cases h9) (fun _ _ => rfl) ?_
    show ab_E w (d + 1) mt_K_without 43 [.ref kx, .int v1, .int v2] [] (I4, L, ab_RR, n, nc, ns) res
    refine ab_iload_n (i := 2) d_K_without_43 rfl rfl ?_
    by_cases c5 : v2 = 0
    · have h := h.1 c5
      refine ab_look (off := 28) (tgt := 72) d_K_without_44 (by decide) (by rw [c5]; rfl) (by decide) ?_
      refine ab_aload_n (i := 0) d_K_without_72 rfl rfl ?_
      refine ab_getR (ci := 10) (k := 9) (j := kx_trialNet) d_K_without_73 v_481 rfl (by decide) (by decide) rfl r_kx_9 ?_
      refine ab_getI (ci := 2) (k := 3) d_K_without_76 v_337 rfl (by decide) (by decide) rfl ?_
      exact ab_iret (ty := .int) d_K_without_79 rfl rfl h
    by_cases c6 : v2 = 1
    · have h := h.2.1 c6
      refine ab_look (off := 36) (tgt := 80) d_K_without_44 (by decide) (by rw [c6]; rfl) (by decide) ?_
      refine ab_aload_n (i := 0) d_K_without_80 rfl rfl ?_
      refine ab_getR (ci := 10) (k := 9) (j := kx_trialNet) d_K_without_81 v_481 rfl (by decide) (by decide) rfl r_kx_9 ?_
      refine ab_getI (ci := 2) (k := 4) d_K_without_84 v_339 rfl (by decide) (by decide) rfl ?_
      refine ab_iconst (v := 1) d_K_without_87 rfl ?_
      refine ab_isub d_K_without_88 ?_
      exact ab_iret (ty := .int) d_K_without_89 rfl rfl h
    have h := h.2.2 ⟨c5, c6⟩
    refine ab_look (off := 46) (tgt := 90) d_K_without_44 (by decide) (by show Op.lookupswitch.offset [(0, 28), (1, 36)] 46 v2.toInt = 46; rw [lv_osw c5 (by decide), lv_osw c6 (by decide)]; rfl) (by decide) ?_
    exact ab_throw (E := "java/util/NoSuchElementException") d_K_without_90 d_K_without_93 d_K_without_94 d_K_without_97 (by decide +kernel) rfl v_1049 v_163 x3_K_185 x4_K_185 h8 (Nat.le_of_ble_eq_true rfl) h
  · exact ab_callVX (me2 := mt_K_needSite) (b := kx) (as := [.int v1]) (st := []) (M2 := (I, L, ab_RR, n, nc + 1, ns + 6)) rfl d_K_without_2 ce_K_needSite v_1124 v_1126 v_49 (by decide) rfl (Nat.le_of_ble_eq_true rfl) hC (Nat.le_succ _) (Nat.le_add_right _ _) (fun _ _ => rfl) h
theorem d_K_alike_0 : decode (ab_bc mt_K_alike) 0 = .ok (.aload_n 0, 1) := by decide +kernel
theorem d_K_alike_1 : decode (ab_bc mt_K_alike) 1 = .ok (.getfield 72, 3) := by decide +kernel
theorem d_K_alike_4 : decode (ab_bc mt_K_alike) 4 = .ok (.aload_n 0, 1) := by decide +kernel
theorem d_K_alike_5 : decode (ab_bc mt_K_alike) 5 = .ok (.getfield 23, 3) := by decide +kernel
theorem d_K_alike_8 : decode (ab_bc mt_K_alike) 8 = .ok (.getfield 110, 3) := by decide +kernel
theorem d_K_alike_11 : decode (ab_bc mt_K_alike) 11 = .ok (.invokevirtual 294, 3) := by decide +kernel
theorem d_K_alike_14 : decode (ab_bc mt_K_alike) 14 = .ok (.lreturn, 1) := by decide +kernel
-- CableKeeper.alike()J over kx
theorem q_K_alike_0 {w : ab_Wd} {d n nc ns : Nat} {I : Nat → Nat → Int32} {L : Nat → Nat → Int64} {res : ab_Re}  (hc : nc ≤ res.2.2.2.2.2.1) (hs : ns ≤ res.2.2.2.2.2.2)
    (h : ∃ (r1 : Int64) (I2 : Nat → Nat → Int32) (L3 : Nat → Nat → Int64), ab_C w d mt_Likes_countNets [.ref kx_likes, .ref kx_now_cables] (I, L, ab_RR, n, nc, ns) (.inl (some (.long r1)), (I2, L3, ab_RR, n, nc, ns)) ∧ res = (.inl (some (.long r1)), (I2, L3, ab_RR, n, nc, ns))) : ab_E w (d + 1) mt_K_alike 0 [.ref kx] [] (I, L, ab_RR, n, nc, ns) res := by
  refine ab_aload_n (i := 0) d_K_alike_0 rfl rfl ?_
  refine ab_getR (ci := 10) (k := 12) (j := kx_likes) d_K_alike_1 v_484 rfl (by decide) (by decide) rfl r_kx_12 ?_
  refine ab_aload_n (i := 0) d_K_alike_4 rfl rfl ?_
  refine ab_getR (ci := 10) (k := 3) (j := kx_now) d_K_alike_5 v_475 rfl (by decide) (by decide) rfl r_kx_3 ?_
  refine ab_getR (ci := 6) (k := 0) (j := kx_now_cables) d_K_alike_8 v_294 rfl (by decide) (by decide) rfl r_kx_now_0 ?_
  obtain ⟨r1, I2, L3, hC, h⟩ := h
  refine ab_callV (me2 := mt_Likes_countNets) (b := kx_likes) (as := [.ref kx_now_cables]) (st := []) (rv := (some (.long r1))) (M2 := (I2, L3, ab_RR, n, nc, ns)) d_K_alike_11 ce_Likes_countNets v_531 v_532 v_533 (by decide) rfl (Nat.le_of_ble_eq_true rfl) hC (Nat.le_refl _) (Nat.le_refl _) hc hs (fun j h9 => by cases h9) (fun _ _ => rfl) ?_
  show ab_E w (d + 1) mt_K_alike 14 [.ref kx] [.long r1] (I2, L3, ab_RR, n, nc, ns) res
  exact ab_lret d_K_alike_14 rfl h
theorem d_K_told_0 : decode (ab_bc mt_K_told) 0 = .ok (.aload_n 0, 1) := by decide +kernel
theorem d_K_told_1 : decode (ab_bc mt_K_told) 1 = .ok (.getfield 79, 3) := by decide +kernel
theorem d_K_told_4 : decode (ab_bc mt_K_told) 4 = .ok (.aload_n 0, 1) := by decide +kernel
theorem d_K_told_5 : decode (ab_bc mt_K_told) 5 = .ok (.getfield 23, 3) := by decide +kernel
theorem d_K_told_8 : decode (ab_bc mt_K_told) 8 = .ok (.getfield 110, 3) := by decide +kernel
theorem d_K_told_11 : decode (ab_bc mt_K_told) 11 = .ok (.invokevirtual 298, 3) := by decide +kernel
theorem d_K_told_14 : decode (ab_bc mt_K_told) 14 = .ok (.iload_n 1, 1) := by decide +kernel
theorem d_K_told_15 : decode (ab_bc mt_K_told) 15 = .ok (.iconst (-1), 1) := by decide +kernel
theorem d_K_told_16 : decode (ab_bc mt_K_told) 16 = .ok (.if_icmp .ne 11, 3) := by decide +kernel
theorem d_K_told_19 : decode (ab_bc mt_K_told) 19 = .ok (.aload_n 0, 1) := by decide +kernel
theorem d_K_told_20 : decode (ab_bc mt_K_told) 20 = .ok (.getfield 79, 3) := by decide +kernel
theorem d_K_told_23 : decode (ab_bc mt_K_told) 23 = .ok (.getfield 301, 3) := by decide +kernel
theorem d_K_told_26 : decode (ab_bc mt_K_told) 26 = .ok (.ireturn, 1) := by decide +kernel
theorem d_K_told_27 : decode (ab_bc mt_K_told) 27 = .ok (.iload_n 1, 1) := by decide +kernel
theorem d_K_told_28 : decode (ab_bc mt_K_told) 28 = .ok (.ifCond .lt 14, 3) := by decide +kernel
theorem d_K_told_31 : decode (ab_bc mt_K_told) 31 = .ok (.iload_n 1, 1) := by decide +kernel
theorem d_K_told_32 : decode (ab_bc mt_K_told) 32 = .ok (.aload_n 0, 1) := by decide +kernel
theorem d_K_told_33 : decode (ab_bc mt_K_told) 33 = .ok (.getfield 79, 3) := by decide +kernel
theorem d_K_told_36 : decode (ab_bc mt_K_told) 36 = .ok (.getfield 301, 3) := by decide +kernel
theorem d_K_told_39 : decode (ab_bc mt_K_told) 39 = .ok (.if_icmp .lt 11, 3) := by decide +kernel
theorem d_K_told_42 : decode (ab_bc mt_K_told) 42 = .ok (.new 183, 3) := by decide +kernel
theorem d_K_told_45 : decode (ab_bc mt_K_told) 45 = .ok (.dup, 1) := by decide +kernel
theorem d_K_told_46 : decode (ab_bc mt_K_told) 46 = .ok (.invokespecial 185, 3) := by decide +kernel
theorem d_K_told_49 : decode (ab_bc mt_K_told) 49 = .ok (.athrow, 1) := by decide +kernel
theorem d_K_told_50 : decode (ab_bc mt_K_told) 50 = .ok (.aload_n 0, 1) := by decide +kernel
theorem d_K_told_51 : decode (ab_bc mt_K_told) 51 = .ok (.getfield 79, 3) := by decide +kernel
theorem d_K_told_54 : decode (ab_bc mt_K_told) 54 = .ok (.getfield 304, 3) := by decide +kernel
theorem d_K_told_57 : decode (ab_bc mt_K_told) 57 = .ok (.iload_n 1, 1) := by decide +kernel
theorem d_K_told_58 : decode (ab_bc mt_K_told) 58 = .ok (.baload, 1) := by decide +kernel
theorem d_K_told_59 : decode (ab_bc mt_K_told) 59 = .ok (.ireturn, 1) := by decide +kernel
-- CableKeeper.told(I)I over kx
theorem q_K_told_0 {w : ab_Wd} {d n nc ns : Nat} {I : Nat → Nat → Int32} {L : Nat → Nat → Int64} {res : ab_Re} (v1 : Int32) (h8 : 8 ≤ (d + 1)) (hc : nc ≤ res.2.2.2.2.2.1) (hs : ns ≤ res.2.2.2.2.2.2)
    (h : ∃ (I2 : Nat → Nat → Int32), ab_C w d mt_Teller_tell [.ref kx_teller, .ref kx_now_cables] (I, L, ab_RR, n, nc, ns) (.inl none, (I2, L, ab_RR, n, nc, ns)) ∧ ((¬ v1 = (-1) → ((v1 < 0 → (ab_E w (d + 1) mt_K_told 42 [.ref kx, .int v1] [] (I2, L, ab_RR, n, nc, ns) res)) ∧ (¬ v1 < 0 → ((v1 < (I2 kx_teller 1) → ((vp_in v1 700) ∧ res = (.inl (some (.int (I2 kx_teller_text v1.toNatClampNeg))), (I2, L, ab_RR, n, nc, ns)))) ∧ (¬ v1 < (I2 kx_teller 1) → (ab_E w (d + 1) mt_K_told 42 [.ref kx, .int v1] [] (I2, L, ab_RR, n, nc, ns) res)))))) ∧ (v1 = (-1) → (res = (.inl (some (.int (I2 kx_teller 1))), (I2, L, ab_RR, n, nc, ns)))))) : ab_E w (d + 1) mt_K_told 0 [.ref kx, .int v1] [] (I, L, ab_RR, n, nc, ns) res := by
  refine ab_aload_n (i := 0) d_K_told_0 rfl rfl ?_
  refine ab_getR (ci := 10) (k := 13) (j := kx_teller) d_K_told_1 v_485 rfl (by decide) (by decide) rfl r_kx_13 ?_
  refine ab_aload_n (i := 0) d_K_told_4 rfl rfl ?_
  refine ab_getR (ci := 10) (k := 3) (j := kx_now) d_K_told_5 v_475 rfl (by decide) (by decide) rfl r_kx_3 ?_
  refine ab_getR (ci := 6) (k := 0) (j := kx_now_cables) d_K_told_8 v_294 rfl (by decide) (by decide) rfl r_kx_now_0 ?_
  obtain ⟨I2, hC, h⟩ := h
  refine ab_callV (me2 := mt_Teller_tell) (b := kx_teller) (as := [.ref kx_now_cables]) (st := []) (rv := none) (M2 := (I2, L, ab_RR, n, nc, ns)) d_K_told_11 ce_Teller_tell v_1219 v_1220 v_1221 (by decide) rfl (Nat.le_of_ble_eq_true rfl) hC (Nat.le_refl _) (Nat.le_refl _) hc hs (fun j h9 => by cases h9) (fun _ _ => rfl) ?_
  show ab_E w (d + 1) mt_K_told 14 [.ref kx, .int v1] [] (I2, L, ab_RR, n, nc, ns) res
  refine ab_iload_n (i := 1) d_K_told_14 rfl rfl ?_
  refine ab_iconst (v := (-1)) d_K_told_15 rfl ?_
  refine ab_icmp_ne (tgt := 27) d_K_told_16 (by decide) (fun c3 => ?_) (fun c3 => ?_)
  · have h := h.1 c3
    refine ab_iload_n (i := 1) d_K_told_27 rfl rfl ?_
    refine ab_if_lt (tgt := 42) d_K_told_28 (by decide) (fun c4 => ?_) (fun c4 => ?_)
    · have h := h.1 c4
      exact h
    · have h := h.2 c4
      refine ab_iload_n (i := 1) d_K_told_31 rfl rfl ?_
      refine ab_aload_n (i := 0) d_K_told_32 rfl rfl ?_
      refine ab_getR (ci := 10) (k := 13) (j := kx_teller) d_K_told_33 v_485 rfl (by decide) (by decide) rfl r_kx_13 ?_
      refine ab_getI (ci := 8) (k := 1) d_K_told_36 v_430 rfl (by decide) (by decide) rfl ?_
      refine ab_icmp_lt (tgt := 50) d_K_told_39 (by decide) (fun c5 => ?_) (fun c5 => ?_)
      · have h := h.1 c5
        refine ab_aload_n (i := 0) d_K_told_50 rfl rfl ?_
        refine ab_getR (ci := 10) (k := 13) (j := kx_teller) d_K_told_51 v_485 rfl (by decide) (by decide) rfl r_kx_13 ?_
        refine ab_getR (ci := 8) (k := 0) (j := kx_teller_text) d_K_told_54 v_428 rfl (by decide) (by decide) rfl r_kx_teller_0 ?_
        refine ab_iload_n (i := 1) d_K_told_57 rfl rfl ?_
        have g6 := h.1; have h := h.2
        refine ab_bald d_K_told_58 rfl rfl g6 ?_
        exact ab_iret (ty := .int) d_K_told_59 rfl rfl h
      · have h := h.2 c5
        exact h
  · have h := h.2 c3
    refine ab_aload_n (i := 0) d_K_told_19 rfl rfl ?_
    refine ab_getR (ci := 10) (k := 13) (j := kx_teller) d_K_told_20 v_485 rfl (by decide) (by decide) rfl r_kx_13 ?_
    refine ab_getI (ci := 8) (k := 1) d_K_told_23 v_430 rfl (by decide) (by decide) rfl ?_
    exact ab_iret (ty := .int) d_K_told_26 rfl rfl h
theorem q_K_told_42 {w : ab_Wd} {d n nc ns : Nat} {I : Nat → Nat → Int32} {L : Nat → Nat → Int64} {res : ab_Re} (v1 : Int32) (h8 : 8 ≤ (d + 1)) (hc : nc ≤ res.2.2.2.2.2.1) (hs : ns ≤ res.2.2.2.2.2.2)
    (h : res = (.inr "java/util/NoSuchElementException", (I, L, ab_RR, n, nc + 1, ns + 6))) : ab_E w (d + 1) mt_K_told 42 [.ref kx, .int v1] [] (I, L, ab_RR, n, nc, ns) res := by
  exact ab_throw (E := "java/util/NoSuchElementException") d_K_told_42 d_K_told_45 d_K_told_46 d_K_told_49 (by decide +kernel) rfl v_1049 v_163 x3_K_185 x4_K_185 h8 (Nat.le_of_ble_eq_true rfl) h
theorem d_K_joined_0 : decode (ab_bc mt_K_joined) 0 = .ok (.iload_n 1, 1) := by decide +kernel
theorem d_K_joined_1 : decode (ab_bc mt_K_joined) 1 = .ok (.ifCond .lt 18, 3) := by decide +kernel
theorem d_K_joined_4 : decode (ab_bc mt_K_joined) 4 = .ok (.iload_n 1, 1) := by decide +kernel
theorem d_K_joined_5 : decode (ab_bc mt_K_joined) 5 = .ok (.aload_n 0, 1) := by decide +kernel
theorem d_K_joined_6 : decode (ab_bc mt_K_joined) 6 = .ok (.getfield 23, 3) := by decide +kernel
theorem d_K_joined_9 : decode (ab_bc mt_K_joined) 9 = .ok (.getfield 110, 3) := by decide +kernel
theorem d_K_joined_12 : decode (ab_bc mt_K_joined) 12 = .ok (.getfield 113, 3) := by decide +kernel
theorem d_K_joined_15 : decode (ab_bc mt_K_joined) 15 = .ok (.ishr, 1) := by decide +kernel
theorem d_K_joined_16 : decode (ab_bc mt_K_joined) 16 = .ok (.ifCond .eq 11, 3) := by decide +kernel
theorem d_K_joined_19 : decode (ab_bc mt_K_joined) 19 = .ok (.new 90, 3) := by decide +kernel
theorem d_K_joined_22 : decode (ab_bc mt_K_joined) 22 = .ok (.dup, 1) := by decide +kernel
theorem d_K_joined_23 : decode (ab_bc mt_K_joined) 23 = .ok (.invokespecial 92, 3) := by decide +kernel
theorem d_K_joined_26 : decode (ab_bc mt_K_joined) 26 = .ok (.athrow, 1) := by decide +kernel
theorem d_K_joined_27 : decode (ab_bc mt_K_joined) 27 = .ok (.aload_n 0, 1) := by decide +kernel
theorem d_K_joined_28 : decode (ab_bc mt_K_joined) 28 = .ok (.getfield 65, 3) := by decide +kernel
theorem d_K_joined_31 : decode (ab_bc mt_K_joined) 31 = .ok (.aload_n 0, 1) := by decide +kernel
theorem d_K_joined_32 : decode (ab_bc mt_K_joined) 32 = .ok (.getfield 23, 3) := by decide +kernel
theorem d_K_joined_35 : decode (ab_bc mt_K_joined) 35 = .ok (.getfield 110, 3) := by decide +kernel
theorem d_K_joined_38 : decode (ab_bc mt_K_joined) 38 = .ok (.iload_n 1, 1) := by decide +kernel
theorem d_K_joined_39 : decode (ab_bc mt_K_joined) 39 = .ok (.invokevirtual 307, 3) := by decide +kernel
theorem d_K_joined_42 : decode (ab_bc mt_K_joined) 42 = .ok (.ireturn, 1) := by decide +kernel
-- CableKeeper.joined(I)I over kx
theorem q_K_joined_0 {w : ab_Wd} {d n nc ns : Nat} {I : Nat → Nat → Int32} {L : Nat → Nat → Int64} {res : ab_Re} (v1 : Int32) (h8 : 8 ≤ (d + 1)) (hc : nc ≤ res.2.2.2.2.2.1) (hs : ns ≤ res.2.2.2.2.2.2)
    (h : ((v1 < 0 → (ab_E w (d + 1) mt_K_joined 19 [.ref kx, .int v1] [] (I, L, ab_RR, n, nc, ns) res)) ∧ (¬ v1 < 0 → (((v1 >>> ((I kx_now_cables 0) &&& 31)) = 0 → (∃ (r3 : Int32) (I4 : Nat → Nat → Int32), ab_C w d mt_Roads_joining [.ref kx_roads, .ref kx_now_cables, .int v1] (I, L, ab_RR, n, nc, ns) (.inl (some (.int r3)), (I4, L, ab_RR, n, nc, ns)) ∧ res = (.inl (some (.int r3)), (I4, L, ab_RR, n, nc, ns)))) ∧ (¬ (v1 >>> ((I kx_now_cables 0) &&& 31)) = 0 → (ab_E w (d + 1) mt_K_joined 19 [.ref kx, .int v1] [] (I, L, ab_RR, n, nc, ns) res)))))) : ab_E w (d + 1) mt_K_joined 0 [.ref kx, .int v1] [] (I, L, ab_RR, n, nc, ns) res := by
  refine ab_iload_n (i := 1) d_K_joined_0 rfl rfl ?_
  refine ab_if_lt (tgt := 19) d_K_joined_1 (by decide) (fun c1 => ?_) (fun c1 => ?_)
  · have h := h.1 c1
    exact h
  · have h := h.2 c1
    refine ab_iload_n (i := 1) d_K_joined_4 rfl rfl ?_
    refine ab_aload_n (i := 0) d_K_joined_5 rfl rfl ?_
    refine ab_getR (ci := 10) (k := 3) (j := kx_now) d_K_joined_6 v_475 rfl (by decide) (by decide) rfl r_kx_3 ?_
    refine ab_getR (ci := 6) (k := 0) (j := kx_now_cables) d_K_joined_9 v_294 rfl (by decide) (by decide) rfl r_kx_now_0 ?_
    refine ab_getI (ci := 1) (k := 0) d_K_joined_12 v_190 rfl (by decide) (by decide) rfl ?_
    refine ab_ishr d_K_joined_15 ?_
    refine ab_if_eq (tgt := 27) d_K_joined_16 (by decide) (fun c2 => ?_) (fun c2 => ?_)
    · have h := h.1 c2
      refine ab_aload_n (i := 0) d_K_joined_27 rfl rfl ?_
      refine ab_getR (ci := 10) (k := 11) (j := kx_roads) d_K_joined_28 v_483 rfl (by decide) (by decide) rfl r_kx_11 ?_
      refine ab_aload_n (i := 0) d_K_joined_31 rfl rfl ?_
      refine ab_getR (ci := 10) (k := 3) (j := kx_now) d_K_joined_32 v_475 rfl (by decide) (by decide) rfl r_kx_3 ?_
      refine ab_getR (ci := 6) (k := 0) (j := kx_now_cables) d_K_joined_35 v_294 rfl (by decide) (by decide) rfl r_kx_now_0 ?_
      refine ab_iload_n (i := 1) d_K_joined_38 rfl rfl ?_
      obtain ⟨r3, I4, hC, h⟩ := h
      refine ab_callV (me2 := mt_Roads_joining) (b := kx_roads) (as := [.ref kx_now_cables, .int v1]) (st := []) (rv := (some (.int r3))) (M2 := (I4, L, ab_RR, n, nc, ns)) d_K_joined_39 ce_Roads_joining v_1250 v_1251 v_1252 (by decide) rfl (Nat.le_of_ble_eq_true rfl) hC (Nat.le_refl _) (Nat.le_refl _) hc hs (fun j h9 => by cases h9) (fun _ _ => rfl) ?_
      show ab_E w (d + 1) mt_K_joined 42 [.ref kx, .int v1] [.int r3] (I4, L, ab_RR, n, nc, ns) res
      exact ab_iret (ty := .int) d_K_joined_42 rfl rfl h
    · have h := h.2 c2
      exact h
theorem q_K_joined_19 {w : ab_Wd} {d n nc ns : Nat} {I : Nat → Nat → Int32} {L : Nat → Nat → Int64} {res : ab_Re} (v1 : Int32) (h8 : 8 ≤ (d + 1)) (hc : nc ≤ res.2.2.2.2.2.1) (hs : ns ≤ res.2.2.2.2.2.2)
    (h : res = (.inr "java/lang/IllegalArgumentException", (I, L, ab_RR, n, nc + 1, ns + 6))) : ab_E w (d + 1) mt_K_joined 19 [.ref kx, .int v1] [] (I, L, ab_RR, n, nc, ns) res := by
  exact ab_throw (E := "java/lang/IllegalArgumentException") d_K_joined_19 d_K_joined_22 d_K_joined_23 d_K_joined_26 (by decide +kernel) rfl v_698 v_155 x3_K_92 x4_K_92 h8 (Nat.le_of_ble_eq_true rfl) h
theorem d_K_swap_0 : decode (ab_bc mt_K_swap) 0 = .ok (.iload_n 1, 1) := by decide +kernel
theorem d_K_swap_1 : decode (ab_bc mt_K_swap) 1 = .ok (.ifCond .lt 17, 3) := by decide +kernel
theorem d_K_swap_4 : decode (ab_bc mt_K_swap) 4 = .ok (.iload_n 1, 1) := by decide +kernel
theorem d_K_swap_5 : decode (ab_bc mt_K_swap) 5 = .ok (.aload_n 0, 1) := by decide +kernel
theorem d_K_swap_6 : decode (ab_bc mt_K_swap) 6 = .ok (.getfield 23, 3) := by decide +kernel
theorem d_K_swap_9 : decode (ab_bc mt_K_swap) 9 = .ok (.getfield 131, 3) := by decide +kernel
theorem d_K_swap_12 : decode (ab_bc mt_K_swap) 12 = .ok (.invokevirtual 135, 3) := by decide +kernel
theorem d_K_swap_15 : decode (ab_bc mt_K_swap) 15 = .ok (.if_icmp .lt 11, 3) := by decide +kernel
theorem d_K_swap_18 : decode (ab_bc mt_K_swap) 18 = .ok (.new 183, 3) := by decide +kernel
theorem d_K_swap_21 : decode (ab_bc mt_K_swap) 21 = .ok (.dup, 1) := by decide +kernel
theorem d_K_swap_22 : decode (ab_bc mt_K_swap) 22 = .ok (.invokespecial 185, 3) := by decide +kernel
theorem d_K_swap_25 : decode (ab_bc mt_K_swap) 25 = .ok (.athrow, 1) := by decide +kernel
theorem d_K_swap_26 : decode (ab_bc mt_K_swap) 26 = .ok (.aload_n 0, 1) := by decide +kernel
theorem d_K_swap_27 : decode (ab_bc mt_K_swap) 27 = .ok (.getfield 23, 3) := by decide +kernel
theorem d_K_swap_30 : decode (ab_bc mt_K_swap) 30 = .ok (.getfield 131, 3) := by decide +kernel
theorem d_K_swap_33 : decode (ab_bc mt_K_swap) 33 = .ok (.iload_n 1, 1) := by decide +kernel
theorem d_K_swap_34 : decode (ab_bc mt_K_swap) 34 = .ok (.invokevirtual 311, 3) := by decide +kernel
theorem d_K_swap_37 : decode (ab_bc mt_K_swap) 37 = .ok (.istore_n 3, 1) := by decide +kernel
theorem d_K_swap_38 : decode (ab_bc mt_K_swap) 38 = .ok (.iload_n 2, 1) := by decide +kernel
theorem d_K_swap_39 : decode (ab_bc mt_K_swap) 39 = .ok (.tableswitch 58 0 4 #[33, 38, 43, 48, 53], 33) := by decide +kernel
theorem d_K_swap_72 : decode (ab_bc mt_K_swap) 72 = .ok (.iload_n 3, 1) := by decide +kernel
theorem d_K_swap_73 : decode (ab_bc mt_K_swap) 73 = .ok (.invokestatic 314, 3) := by decide +kernel
theorem d_K_swap_76 : decode (ab_bc mt_K_swap) 76 = .ok (.ireturn, 1) := by decide +kernel
theorem d_K_swap_77 : decode (ab_bc mt_K_swap) 77 = .ok (.iload_n 3, 1) := by decide +kernel
theorem d_K_swap_78 : decode (ab_bc mt_K_swap) 78 = .ok (.invokestatic 317, 3) := by decide +kernel
theorem d_K_swap_81 : decode (ab_bc mt_K_swap) 81 = .ok (.ireturn, 1) := by decide +kernel
theorem d_K_swap_82 : decode (ab_bc mt_K_swap) 82 = .ok (.iload_n 3, 1) := by decide +kernel
theorem d_K_swap_83 : decode (ab_bc mt_K_swap) 83 = .ok (.invokestatic 320, 3) := by decide +kernel
theorem d_K_swap_86 : decode (ab_bc mt_K_swap) 86 = .ok (.ireturn, 1) := by decide +kernel
theorem d_K_swap_87 : decode (ab_bc mt_K_swap) 87 = .ok (.iload_n 3, 1) := by decide +kernel
theorem d_K_swap_88 : decode (ab_bc mt_K_swap) 88 = .ok (.invokestatic 323, 3) := by decide +kernel
theorem d_K_swap_91 : decode (ab_bc mt_K_swap) 91 = .ok (.ireturn, 1) := by decide +kernel
theorem d_K_swap_92 : decode (ab_bc mt_K_swap) 92 = .ok (.iload_n 3, 1) := by decide +kernel
theorem d_K_swap_93 : decode (ab_bc mt_K_swap) 93 = .ok (.invokestatic 326, 3) := by decide +kernel
theorem d_K_swap_96 : decode (ab_bc mt_K_swap) 96 = .ok (.ireturn, 1) := by decide +kernel
theorem d_K_swap_97 : decode (ab_bc mt_K_swap) 97 = .ok (.new 183, 3) := by decide +kernel
theorem d_K_swap_100 : decode (ab_bc mt_K_swap) 100 = .ok (.dup, 1) := by decide +kernel
theorem d_K_swap_101 : decode (ab_bc mt_K_swap) 101 = .ok (.invokespecial 185, 3) := by decide +kernel
theorem d_K_swap_104 : decode (ab_bc mt_K_swap) 104 = .ok (.athrow, 1) := by decide +kernel
-- CableKeeper.swap(II)I over kx
theorem q_K_swap_0 {w : ab_Wd} {d n nc ns : Nat} {I : Nat → Nat → Int32} {L : Nat → Nat → Int64} {res : ab_Re} (v1 : Int32) (v2 : Int32) (h8 : 8 ≤ (d + 1)) (hc : nc ≤ res.2.2.2.2.2.1) (hs : ns ≤ res.2.2.2.2.2.2)
    (h : ((v1 < 0 → (ab_E w (d + 1) mt_K_swap 18 [.ref kx, .int v1, .int v2, .null] [] (I, L, ab_RR, n, nc, ns) res)) ∧ (¬ v1 < 0 → (∃ (r2 : Int32), ab_C w d mt_Swaps_shown [.ref kx_now_swaps] (I, L, ab_RR, n, nc, ns) (.inl (some (.int r2)), (I, L, ab_RR, n, nc, ns)) ∧ ((v1 < r2 → (∃ (r4 : Int32), ab_C w d mt_Swaps_rowOf [.ref kx_now_swaps, .int v1] (I, L, ab_RR, n, nc, ns) (.inl (some (.int r4)), (I, L, ab_RR, n, nc, ns)) ∧ ((v2 = 0 → (∃ (r5 : Int32), ab_C w d mt_Swaps_whyIn [.int r4] (I, L, ab_RR, n, nc, ns) (.inl (some (.int r5)), (I, L, ab_RR, n, nc, ns)) ∧ res = (.inl (some (.int r5)), (I, L, ab_RR, n, nc, ns)))) ∧ (v2 = 1 → (∃ (r6 : Int32), ab_C w d mt_Swaps_cableIn [.int r4] (I, L, ab_RR, n, nc, ns) (.inl (some (.int r6)), (I, L, ab_RR, n, nc, ns)) ∧ res = (.inl (some (.int r6)), (I, L, ab_RR, n, nc, ns)))) ∧ (v2 = 2 → (∃ (r7 : Int32), ab_C w d mt_Swaps_outIn [.int r4] (I, L, ab_RR, n, nc, ns) (.inl (some (.int r7)), (I, L, ab_RR, n, nc, ns)) ∧ res = (.inl (some (.int r7)), (I, L, ab_RR, n, nc, ns)))) ∧ (v2 = 3 → (∃ (r8 : Int32), ab_C w d mt_Swaps_inIn [.int r4] (I, L, ab_RR, n, nc, ns) (.inl (some (.int r8)), (I, L, ab_RR, n, nc, ns)) ∧ res = (.inl (some (.int r8)), (I, L, ab_RR, n, nc, ns)))) ∧ (v2 = 4 → (∃ (r9 : Int32), ab_C w d mt_Swaps_totalIn [.int r4] (I, L, ab_RR, n, nc, ns) (.inl (some (.int r9)), (I, L, ab_RR, n, nc, ns)) ∧ res = (.inl (some (.int r9)), (I, L, ab_RR, n, nc, ns)))) ∧ ((v2.toInt < 0 ∨ 4 < v2.toInt) → (res = (.inr "java/util/NoSuchElementException", (I, L, ab_RR, n, nc + 1, ns + 6))))))) ∧ (¬ v1 < r2 → (ab_E w (d + 1) mt_K_swap 18 [.ref kx, .int v1, .int v2, .null] [] (I, L, ab_RR, n, nc, ns) res))))))) : ab_E w (d + 1) mt_K_swap 0 [.ref kx, .int v1, .int v2, .null] [] (I, L, ab_RR, n, nc, ns) res := by
  refine ab_iload_n (i := 1) d_K_swap_0 rfl rfl ?_
  refine ab_if_lt (tgt := 18) d_K_swap_1 (by decide) (fun c1 => ?_) (fun c1 => ?_)
  · have h := h.1 c1
    exact h
  · have h := h.2 c1
    refine ab_iload_n (i := 1) d_K_swap_4 rfl rfl ?_
    refine ab_aload_n (i := 0) d_K_swap_5 rfl rfl ?_
    refine ab_getR (ci := 10) (k := 3) (j := kx_now) d_K_swap_6 v_475 rfl (by decide) (by decide) rfl r_kx_3 ?_
    refine ab_getR (ci := 6) (k := 1) (j := kx_now_swaps) d_K_swap_9 v_296 rfl (by decide) (by decide) rfl r_kx_now_1 ?_
    obtain ⟨r2, hC, h⟩ := h
    refine ab_callV (me2 := mt_Swaps_shown) (b := kx_now_swaps) (as := []) (st := [.int v1]) (rv := (some (.int r2))) (M2 := (I, L, ab_RR, n, nc, ns)) d_K_swap_12 ce_Swaps_shown v_927 v_928 v_929 (by decide) rfl (Nat.le_of_ble_eq_true rfl) hC (Nat.le_refl _) (Nat.le_refl _) hc hs (fun j h9 => by cases h9) (fun _ _ => rfl) ?_
    show ab_E w (d + 1) mt_K_swap 15 [.ref kx, .int v1, .int v2, .null] [.int r2, .int v1] (I, L, ab_RR, n, nc, ns) res
    refine ab_icmp_lt (tgt := 26) d_K_swap_15 (by decide) (fun c3 => ?_) (fun c3 => ?_)
    · have h := h.1 c3
      refine ab_aload_n (i := 0) d_K_swap_26 rfl rfl ?_
      refine ab_getR (ci := 10) (k := 3) (j := kx_now) d_K_swap_27 v_475 rfl (by decide) (by decide) rfl r_kx_3 ?_
      refine ab_getR (ci := 6) (k := 1) (j := kx_now_swaps) d_K_swap_30 v_296 rfl (by decide) (by decide) rfl r_kx_now_1 ?_
      refine ab_iload_n (i := 1) d_K_swap_33 rfl rfl ?_
      obtain ⟨r4, hC, h⟩ := h
      refine ab_callV (me2 := mt_Swaps_rowOf) (b := kx_now_swaps) (as := [.int v1]) (st := []) (rv := (some (.int r4))) (M2 := (I, L, ab_RR, n, nc, ns)) d_K_swap_34 ce_Swaps_rowOf v_1270 v_1271 v_1272 (by decide) rfl (Nat.le_of_ble_eq_true rfl) hC (Nat.le_refl _) (Nat.le_refl _) hc hs (fun j h9 => by cases h9) (fun _ _ => rfl) ?_
      show ab_E w (d + 1) mt_K_swap 37 [.ref kx, .int v1, .int v2, .null] [.int r4] (I, L, ab_RR, n, nc, ns) res
      refine ab_istore_n (i := 3) d_K_swap_37 rfl (by decide) (Or.inr rfl) ?_
      refine ab_iload_n (i := 2) d_K_swap_38 rfl rfl ?_
      by_cases c10 : v2 = 0
      · have h := h.1 c10
        refine ab_tabIn (tgt := 72) d_K_swap_39 (by rw [c10]; decide) (by rw [c10]; decide) (by rw [ab_tab_in (j := 0) c10 (by decide)]; rfl) (by decide) ?_
        refine ab_iload_n (i := 3) d_K_swap_72 rfl rfl ?_
        obtain ⟨r5, hC, h⟩ := h
        refine ab_callS (me2 := mt_Swaps_whyIn) (as := [.int r4]) (st := []) (rv := (some (.int r5))) (M2 := (I, L, ab_RR, n, nc, ns)) d_K_swap_73 ce_Swaps_whyIn ⟨v_1275, Or.inl v_1274⟩ (Nat.le_of_ble_eq_true rfl) hC (Nat.le_refl _) (Nat.le_refl _) hc hs (fun j h9 => by cases h9) (fun _ _ => rfl) ?_
        show ab_E w (d + 1) mt_K_swap 76 [.ref kx, .int v1, .int v2, .int r4] [.int r5] (I, L, ab_RR, n, nc, ns) res
        exact ab_iret (ty := .int) d_K_swap_76 rfl rfl h
      by_cases c11 : v2 = 1
      · have h := h.2.1 c11
        refine ab_tabIn (tgt := 77) d_K_swap_39 (by rw [c11]; decide) (by rw [c11]; decide) (by rw [ab_tab_in (j := 1) c11 (by decide)]; rfl) (by decide) ?_
        refine ab_iload_n (i := 3) d_K_swap_77 rfl rfl ?_
        obtain ⟨r6, hC, h⟩ := h
        refine ab_callS (me2 := mt_Swaps_cableIn) (as := [.int r4]) (st := []) (rv := (some (.int r6))) (M2 := (I, L, ab_RR, n, nc, ns)) d_K_swap_78 ce_Swaps_cableIn ⟨v_1278, Or.inl v_1277⟩ (Nat.le_of_ble_eq_true rfl) hC (Nat.le_refl _) (Nat.le_refl _) hc hs (fun j h9 => by cases h9) (fun _ _ => rfl) ?_
        show ab_E w (d + 1) mt_K_swap 81 [.ref kx, .int v1, .int v2, .int r4] [.int r6] (I, L, ab_RR, n, nc, ns) res
        exact ab_iret (ty := .int) d_K_swap_81 rfl rfl h
      by_cases c12 : v2 = 2
      · have h := h.2.2.1 c12
        refine ab_tabIn (tgt := 82) d_K_swap_39 (by rw [c12]; decide) (by rw [c12]; decide) (by rw [ab_tab_in (j := 2) c12 (by decide)]; rfl) (by decide) ?_
        refine ab_iload_n (i := 3) d_K_swap_82 rfl rfl ?_
        obtain ⟨r7, hC, h⟩ := h
        refine ab_callS (me2 := mt_Swaps_outIn) (as := [.int r4]) (st := []) (rv := (some (.int r7))) (M2 := (I, L, ab_RR, n, nc, ns)) d_K_swap_83 ce_Swaps_outIn ⟨v_1281, Or.inl v_1280⟩ (Nat.le_of_ble_eq_true rfl) hC (Nat.le_refl _) (Nat.le_refl _) hc hs (fun j h9 => by cases h9) (fun _ _ => rfl) ?_
        show ab_E w (d + 1) mt_K_swap 86 [.ref kx, .int v1, .int v2, .int r4] [.int r7] (I, L, ab_RR, n, nc, ns) res
        exact ab_iret (ty := .int) d_K_swap_86 rfl rfl h
      by_cases c13 : v2 = 3
      · have h := h.2.2.2.1 c13
        refine ab_tabIn (tgt := 87) d_K_swap_39 (by rw [c13]; decide) (by rw [c13]; decide) (by rw [ab_tab_in (j := 3) c13 (by decide)]; rfl) (by decide) ?_
        refine ab_iload_n (i := 3) d_K_swap_87 rfl rfl ?_
        obtain ⟨r8, hC, h⟩ := h
        refine ab_callS (me2 := mt_Swaps_inIn) (as := [.int r4]) (st := []) (rv := (some (.int r8))) (M2 := (I, L, ab_RR, n, nc, ns)) d_K_swap_88 ce_Swaps_inIn ⟨v_1284, Or.inl v_1283⟩ (Nat.le_of_ble_eq_true rfl) hC (Nat.le_refl _) (Nat.le_refl _) hc hs (fun j h9 => by cases h9) (fun _ _ => rfl) ?_
        show ab_E w (d + 1) mt_K_swap 91 [.ref kx, .int v1, .int v2, .int r4] [.int r8] (I, L, ab_RR, n, nc, ns) res
        exact ab_iret (ty := .int) d_K_swap_91 rfl rfl h
      by_cases c14 : v2 = 4
      · have h := h.2.2.2.2.1 c14
        refine ab_tabIn (tgt := 92) d_K_swap_39 (by rw [c14]; decide) (by rw [c14]; decide) (by rw [ab_tab_in (j := 4) c14 (by decide)]; rfl) (by decide) ?_
        refine ab_iload_n (i := 3) d_K_swap_92 rfl rfl ?_
        obtain ⟨r9, hC, h⟩ := h
        refine ab_callS (me2 := mt_Swaps_totalIn) (as := [.int r4]) (st := []) (rv := (some (.int r9))) (M2 := (I, L, ab_RR, n, nc, ns)) d_K_swap_93 ce_Swaps_totalIn ⟨v_1287, Or.inl v_1286⟩ (Nat.le_of_ble_eq_true rfl) hC (Nat.le_refl _) (Nat.le_refl _) hc hs (fun j h9 => by cases h9) (fun _ _ => rfl) ?_
        show ab_E w (d + 1) mt_K_swap 96 [.ref kx, .int v1, .int v2, .int r4] [.int r9] (I, L, ab_RR, n, nc, ns) res
        exact ab_iret (ty := .int) d_K_swap_96 rfl rfl h
      have hr : v2.toInt < 0 ∨ 4 < v2.toInt := by
        rcases Int.lt_or_le v2.toInt 0 with h9 | h9
        · exact Or.inl h9
        · refine Or.inr (Int.not_le.mp fun h8 => ?_)
          exact ab_tab_out (lo := 0) (hi := 4) (k := 5) h9 h8 (by decide) (by
            intro j hj
            match j, hj with
            | 0, _ => exact c10
            | 1, _ => exact c11
            | 2, _ => exact c12
            | 3, _ => exact c13
            | 4, _ => exact c14
            | j9 + 5, hj => exact absurd hj (by omega))
      have h := h.2.2.2.2.2 hr
      refine ab_tabOut (tgt := 97) d_K_swap_39 hr (by decide) ?_
      exact ab_throw (E := "java/util/NoSuchElementException") d_K_swap_97 d_K_swap_100 d_K_swap_101 d_K_swap_104 (by decide +kernel) rfl v_1049 v_163 x3_K_185 x4_K_185 h8 (Nat.le_of_ble_eq_true rfl) h
    · have h := h.2 c3
      exact h
theorem q_K_swap_18 {w : ab_Wd} {d n nc ns : Nat} {I : Nat → Nat → Int32} {L : Nat → Nat → Int64} {res : ab_Re} (v1 : Int32) (v2 : Int32) (h8 : 8 ≤ (d + 1)) (hc : nc ≤ res.2.2.2.2.2.1) (hs : ns ≤ res.2.2.2.2.2.2)
    (h : res = (.inr "java/util/NoSuchElementException", (I, L, ab_RR, n, nc + 1, ns + 6))) : ab_E w (d + 1) mt_K_swap 18 [.ref kx, .int v1, .int v2, .null] [] (I, L, ab_RR, n, nc, ns) res := by
  exact ab_throw (E := "java/util/NoSuchElementException") d_K_swap_18 d_K_swap_21 d_K_swap_22 d_K_swap_25 (by decide +kernel) rfl v_1049 v_163 x3_K_185 x4_K_185 h8 (Nat.le_of_ble_eq_true rfl) h
