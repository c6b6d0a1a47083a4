theorem d_K_look_0 : decode (ab_bc mt_K_look) 0 = .ok (.aload_n 0, 1) := by decide +kernel
theorem d_K_look_1 : decode (ab_bc mt_K_look) 1 = .ok (.iload_n 1, 1) := by decide +kernel
theorem d_K_look_2 : decode (ab_bc mt_K_look) 2 = .ok (.invokevirtual 186, 3) := by decide +kernel
theorem d_K_look_5 : decode (ab_bc mt_K_look) 5 = .ok (.aload_n 0, 1) := by decide +kernel
theorem d_K_look_6 : decode (ab_bc mt_K_look) 6 = .ok (.iload_n 1, 1) := by decide +kernel
theorem d_K_look_7 : decode (ab_bc mt_K_look) 7 = .ok (.invokevirtual 375, 3) := by decide +kernel
theorem d_K_look_10 : decode (ab_bc mt_K_look) 10 = .ok (.aload_n 0, 1) := by decide +kernel
theorem d_K_look_11 : decode (ab_bc mt_K_look) 11 = .ok (.iload_n 1, 1) := by decide +kernel
theorem d_K_look_12 : decode (ab_bc mt_K_look) 12 = .ok (.invokevirtual 220, 3) := by decide +kernel
theorem d_K_look_15 : decode (ab_bc mt_K_look) 15 = .ok (.istore_n 2, 1) := by decide +kernel
theorem d_K_look_16 : decode (ab_bc mt_K_look) 16 = .ok (.iload_n 2, 1) := by decide +kernel
theorem d_K_look_17 : decode (ab_bc mt_K_look) 17 = .ok (.ifCond .le 22, 3) := by decide +kernel
theorem d_K_look_20 : decode (ab_bc mt_K_look) 20 = .ok (.aload_n 0, 1) := by decide +kernel
theorem d_K_look_21 : decode (ab_bc mt_K_look) 21 = .ok (.getfield 23, 3) := by decide +kernel
theorem d_K_look_24 : decode (ab_bc mt_K_look) 24 = .ok (.aload_n 0, 1) := by decide +kernel
theorem d_K_look_25 : decode (ab_bc mt_K_look) 25 = .ok (.iload_n 1, 1) := by decide +kernel
theorem d_K_look_26 : decode (ab_bc mt_K_look) 26 = .ok (.invokevirtual 381, 3) := by decide +kernel
theorem d_K_look_29 : decode (ab_bc mt_K_look) 29 = .ok (.invokevirtual 384, 3) := by decide +kernel
theorem d_K_look_32 : decode (ab_bc mt_K_look) 32 = .ok (.ifCond .eq 7, 3) := by decide +kernel
theorem d_K_look_35 : decode (ab_bc mt_K_look) 35 = .ok (.iconst 1, 1) := by decide +kernel
theorem d_K_look_36 : decode (ab_bc mt_K_look) 36 = .ok (.goto 4, 3) := by decide +kernel
theorem d_K_look_39 : decode (ab_bc mt_K_look) 39 = .ok (.iconst 0, 1) := by decide +kernel
theorem d_K_look_40 : decode (ab_bc mt_K_look) 40 = .ok (.istore_n 3, 1) := by decide +kernel
theorem d_K_look_41 : decode (ab_bc mt_K_look) 41 = .ok (.iload_n 2, 1) := by decide +kernel
theorem d_K_look_42 : decode (ab_bc mt_K_look) 42 = .ok (.sipush 999, 3) := by decide +kernel
theorem d_K_look_45 : decode (ab_bc mt_K_look) 45 = .ok (.if_icmp .ge 22, 3) := by decide +kernel
theorem d_K_look_48 : decode (ab_bc mt_K_look) 48 = .ok (.aload_n 0, 1) := by decide +kernel
theorem d_K_look_49 : decode (ab_bc mt_K_look) 49 = .ok (.getfield 23, 3) := by decide +kernel
theorem d_K_look_52 : decode (ab_bc mt_K_look) 52 = .ok (.aload_n 0, 1) := by decide +kernel
theorem d_K_look_53 : decode (ab_bc mt_K_look) 53 = .ok (.iload_n 1, 1) := by decide +kernel
theorem d_K_look_54 : decode (ab_bc mt_K_look) 54 = .ok (.invokevirtual 387, 3) := by decide +kernel
theorem d_K_look_57 : decode (ab_bc mt_K_look) 57 = .ok (.invokevirtual 384, 3) := by decide +kernel
theorem d_K_look_60 : decode (ab_bc mt_K_look) 60 = .ok (.ifCond .eq 7, 3) := by decide +kernel
theorem d_K_look_63 : decode (ab_bc mt_K_look) 63 = .ok (.iconst 1, 1) := by decide +kernel
theorem d_K_look_64 : decode (ab_bc mt_K_look) 64 = .ok (.goto 4, 3) := by decide +kernel
theorem d_K_look_67 : decode (ab_bc mt_K_look) 67 = .ok (.iconst 0, 1) := by decide +kernel
theorem d_K_look_68 : decode (ab_bc mt_K_look) 68 = .ok (.istore 4, 2) := by decide +kernel
theorem d_K_look_70 : decode (ab_bc mt_K_look) 70 = .ok (.iload_n 3, 1) := by decide +kernel
theorem d_K_look_71 : decode (ab_bc mt_K_look) 71 = .ok (.ifCond .eq 16, 3) := by decide +kernel
theorem d_K_look_74 : decode (ab_bc mt_K_look) 74 = .ok (.iload 4, 2) := by decide +kernel
theorem d_K_look_76 : decode (ab_bc mt_K_look) 76 = .ok (.ifCond .eq 11, 3) := by decide +kernel
theorem d_K_look_79 : decode (ab_bc mt_K_look) 79 = .ok (.aload_n 0, 1) := by decide +kernel
theorem d_K_look_80 : decode (ab_bc mt_K_look) 80 = .ok (.iload_n 1, 1) := by decide +kernel
theorem d_K_look_81 : decode (ab_bc mt_K_look) 81 = .ok (.invokevirtual 390, 3) := by decide +kernel
theorem d_K_look_84 : decode (ab_bc mt_K_look) 84 = .ok (.goto 4, 3) := by decide +kernel
theorem d_K_look_87 : decode (ab_bc mt_K_look) 87 = .ok (.iconst (-1), 1) := by decide +kernel
theorem d_K_look_88 : decode (ab_bc mt_K_look) 88 = .ok (.ireturn, 1) := by decide +kernel
-- CableKeeper.look(I)I over kx
theorem q_K_look_0 {w : ab_Wd} {d n nc ns : Nat} {I : Nat → Nat → Int32} {L : Nat → Nat → Int64} {res : ab_Re} (v1 : Int32) (hc : nc ≤ res.2.2.2.2.2.1) (hs : ns ≤ res.2.2.2.2.2.2)
    (h : ((ab_C w d mt_K_needCable [.ref kx, .int v1] (I, L, ab_RR, n, nc, ns) (.inl none, (I, L, ab_RR, n, nc, ns)) ∧ ((ab_C w d mt_K_needSound [.ref kx, .int v1] (I, L, ab_RR, n, nc, ns) (.inl none, (I, L, ab_RR, n, nc, ns)) ∧ (∃ (r3 : Int32), ab_C w d mt_K_barOf [.ref kx, .int v1] (I, L, ab_RR, n, nc, ns) (.inl (some (.int r3)), (I, L, ab_RR, n, nc, ns)) ∧ ((r3 ≤ 0 → (ab_E w (d + 1) mt_K_look 39 [.ref kx, .int v1, .int r3, .null, .null] [] (I, L, ab_RR, n, nc, ns) res)) ∧ (¬ r3 ≤ 0 → (∃ (r5 : Int32), ab_C w d mt_K_netWith [.ref kx, .int v1] (I, L, ab_RR, n, nc, ns) (.inl (some (.int r5)), (I, L, ab_RR, n, nc, ns)) ∧ ∃ (r6 : Int32), ab_C w d mt_State_fitsNoted [.ref kx_now, .int r5] (I, L, ab_RR, n, nc, ns) (.inl (some (.int r6)), (I, L, ab_RR, n, nc, ns)) ∧ ((r6 = 0 → (ab_E w (d + 1) mt_K_look 39 [.ref kx, .int v1, .int r3, .null, .null] [] (I, L, ab_RR, n, nc, ns) res)) ∧ (¬ r6 = 0 → (ab_E w (d + 1) mt_K_look 40 [.ref kx, .int v1, .int r3, .null, .null] [.int 1] (I, L, ab_RR, n, nc, ns) res)))))))) ∨ (∃ E : String, ab_C w d mt_K_needSound [.ref kx, .int v1] (I, L, ab_RR, n, nc, ns) (.inr E, (I, L, ab_RR, n, nc + 1, ns + 6)) ∧ res = (.inr E, (I, L, ab_RR, n, nc + 1, ns + 6))))) ∨ (∃ E : String, ab_C w d mt_K_needCable [.ref kx, .int v1] (I, L, ab_RR, n, nc, ns) (.inr E, (I, L, ab_RR, n, nc + 1, ns + 6)) ∧ res = (.inr E, (I, L, ab_RR, n, nc + 1, ns + 6))))) : ab_E w (d + 1) mt_K_look 0 [.ref kx, .int v1, .null, .null, .null] [] (I, L, ab_RR, n, nc, ns) res := by
  refine ab_aload_n (i := 0) d_K_look_0 rfl rfl ?_
  refine ab_iload_n (i := 1) d_K_look_1 rfl rfl ?_
  rcases h with ⟨hC, h⟩ | ⟨E9, hC, h⟩
  · refine ab_callV (me2 := mt_K_needCable) (b := kx) (as := [.int v1]) (st := []) (rv := none) (M2 := (I, L, ab_RR, n, nc, ns)) d_K_look_2 ce_K_needCable v_1071 v_1073 v_43 (by decide) rfl (Nat.le_of_ble_eq_true rfl) hC (Nat.le_refl _) (Nat.le_refl _) hc hs (fun j h9 => by cases h9) (fun _ _ => rfl) ?_
    show ab_E w (d + 1) mt_K_look 5 [.ref kx, .int v1, .null, .null, .null] [] (I, L, ab_RR, n, nc, ns) res
    refine ab_aload_n (i := 0) d_K_look_5 rfl rfl ?_
    refine ab_iload_n (i := 1) d_K_look_6 rfl rfl ?_
    rcases h with ⟨hC, h⟩ | ⟨E9, hC, h⟩
    · refine ab_callV (me2 := mt_K_needSound) (b := kx) (as := [.int v1]) (st := []) (rv := none) (M2 := (I, L, ab_RR, n, nc, ns)) d_K_look_7 ce_K_needSound v_1297 v_1299 v_61 (by decide) rfl (Nat.le_of_ble_eq_true rfl) hC (Nat.le_refl _) (Nat.le_refl _) hc hs (fun j h9 => by cases h9) (fun _ _ => rfl) ?_
      show ab_E w (d + 1) mt_K_look 10 [.ref kx, .int v1, .null, .null, .null] [] (I, L, ab_RR, n, nc, ns) res
      refine ab_aload_n (i := 0) d_K_look_10 rfl rfl ?_
      refine ab_iload_n (i := 1) d_K_look_11 rfl rfl ?_
      obtain ⟨r3, hC, h⟩ := h
      refine ab_callV (me2 := mt_K_barOf) (b := kx) (as := [.int v1]) (st := []) (rv := (some (.int r3))) (M2 := (I, L, ab_RR, n, nc, ns)) d_K_look_12 ce_K_barOf v_1087 v_1089 v_46 (by decide) rfl (Nat.le_of_ble_eq_true rfl) hC (Nat.le_refl _) (Nat.le_refl _) hc hs (fun j h9 => by cases h9) (fun _ _ => rfl) ?_
      show ab_E w (d + 1) mt_K_look 15 [.ref kx, .int v1, .null, .null, .null] [.int r3] (I, L, ab_RR, n, nc, ns) res
      refine ab_istore_n (i := 2) d_K_look_15 rfl (by decide) (Or.inr rfl) ?_
      refine ab_iload_n (i := 2) d_K_look_16 rfl rfl ?_
      refine ab_if_le (tgt := 39) d_K_look_17 (by decide) (fun c4 => ?_) (fun c4 => ?_)
      · have h := h.1 c4
        exact h
      · have h := h.2 c4
        refine ab_aload_n (i := 0) d_K_look_20 rfl rfl ?_
        refine ab_getR (ci := 10) (k := 3) (j := kx_now) d_K_look_21 v_475 rfl (by decide) (by decide) rfl r_kx_3 ?_
        refine ab_aload_n (i := 0) d_K_look_24 rfl rfl ?_
        refine ab_iload_n (i := 1) d_K_look_25 rfl rfl ?_
        obtain ⟨r5, hC, h⟩ := h
        refine ab_callV (me2 := mt_K_netWith) (b := kx) (as := [.int v1]) (st := [.ref kx_now]) (rv := (some (.int r5))) (M2 := (I, L, ab_RR, n, nc, ns)) d_K_look_26 ce_K_netWith v_1316 v_1318 v_62 (by decide) rfl (Nat.le_of_ble_eq_true rfl) hC (Nat.le_refl _) (Nat.le_refl _) hc hs (fun j h9 => by cases h9) (fun _ _ => rfl) ?_
        show ab_E w (d + 1) mt_K_look 29 [.ref kx, .int v1, .int r3, .null, .null] [.int r5, .ref kx_now] (I, L, ab_RR, n, nc, ns) res
        obtain ⟨r6, hC, h⟩ := h
        refine ab_callV (me2 := mt_State_fitsNoted) (b := kx_now) (as := [.int r5]) (st := []) (rv := (some (.int r6))) (M2 := (I, L, ab_RR, n, nc, ns)) d_K_look_29 ce_State_fitsNoted v_1324 v_1325 v_1326 (by decide) rfl (Nat.le_of_ble_eq_true rfl) hC (Nat.le_refl _) (Nat.le_refl _) hc hs (fun j h9 => by cases h9) (fun _ _ => rfl) ?_
        show ab_E w (d + 1) mt_K_look 32 [.ref kx, .int v1, .int r3, .null, .null] [.int r6] (I, L, ab_RR, n, nc, ns) res
        refine ab_if_eq (tgt := 39) d_K_look_32 (by decide) (fun c7 => ?_) (fun c7 => ?_)
        · have h := h.1 c7
          exact h
        · have h := h.2 c7
          refine ab_iconst (v := 1) d_K_look_35 rfl ?_
          refine ab_goto (tgt := 40) d_K_look_36 (by decide) ?_
          exact h
    · exact ab_callVX (me2 := mt_K_needSound) (b := kx) (as := [.int v1]) (st := []) (M2 := (I, L, ab_RR, n, nc + 1, ns + 6)) rfl d_K_look_7 ce_K_needSound v_1297 v_1299 v_61 (by decide) rfl (Nat.le_of_ble_eq_true rfl) hC (Nat.le_succ _) (Nat.le_add_right _ _) (fun _ _ => rfl) h
  · exact ab_callVX (me2 := mt_K_needCable) (b := kx) (as := [.int v1]) (st := []) (M2 := (I, L, ab_RR, n, nc + 1, ns + 6)) rfl d_K_look_2 ce_K_needCable v_1071 v_1073 v_43 (by decide) rfl (Nat.le_of_ble_eq_true rfl) hC (Nat.le_succ _) (Nat.le_add_right _ _) (fun _ _ => rfl) h
theorem q_K_look_39 {w : ab_Wd} {d n nc ns : Nat} {I : Nat → Nat → Int32} {L : Nat → Nat → Int64} {res : ab_Re} (v1 : Int32) (v2 : Int32) (hc : nc ≤ res.2.2.2.2.2.1) (hs : ns ≤ res.2.2.2.2.2.2)
    (h : ab_E w (d + 1) mt_K_look 40 [.ref kx, .int v1, .int v2, .null, .null] [.int 0] (I, L, ab_RR, n, nc, ns) res) : ab_E w (d + 1) mt_K_look 39 [.ref kx, .int v1, .int v2, .null, .null] [] (I, L, ab_RR, n, nc, ns) res := by
  refine ab_iconst (v := 0) d_K_look_39 rfl ?_
  exact h
theorem q_K_look_40 {w : ab_Wd} {d n nc ns : Nat} {I : Nat → Nat → Int32} {L : Nat → Nat → Int64} {res : ab_Re} (v1 : Int32) (v2 : Int32) (s0 : Int32) (hc : nc ≤ res.2.2.2.2.2.1) (hs : ns ≤ res.2.2.2.2.2.2)
    (h : ((999 ≤ v2 → (ab_E w (d + 1) mt_K_look 67 [.ref kx, .int v1, .int v2, .int s0, .null] [] (I, L, ab_RR, n, nc, ns) res)) ∧ (¬ 999 ≤ v2 → (∃ (r2 : Int32), ab_C w d mt_K_netWithout [.ref kx, .int v1] (I, L, ab_RR, n, nc, ns) (.inl (some (.int r2)), (I, L, ab_RR, n, nc, ns)) ∧ ∃ (r3 : Int32), ab_C w d mt_State_fitsNoted [.ref kx_now, .int r2] (I, L, ab_RR, n, nc, ns) (.inl (some (.int r3)), (I, L, ab_RR, n, nc, ns)) ∧ ((r3 = 0 → (ab_E w (d + 1) mt_K_look 67 [.ref kx, .int v1, .int v2, .int s0, .null] [] (I, L, ab_RR, n, nc, ns) res)) ∧ (¬ r3 = 0 → (ab_E w (d + 1) mt_K_look 68 [.ref kx, .int v1, .int v2, .int s0, .null] [.int 1] (I, L, ab_RR, n, nc, ns) res))))))) : ab_E w (d + 1) mt_K_look 40 [.ref kx, .int v1, .int v2, .null, .null] [.int s0] (I, L, ab_RR, n, nc, ns) res := by
  refine ab_istore_n (i := 3) d_K_look_40 rfl (by decide) (Or.inr rfl) ?_
  refine ab_iload_n (i := 2) d_K_look_41 rfl rfl ?_
  refine ab_sipush (v := 999) d_K_look_42 rfl ?_
  refine ab_icmp_ge (tgt := 67) d_K_look_45 (by decide) (fun c1 => ?_) (fun c1 => ?_)
  · have h := h.1 c1
    exact h
  · have h := h.2 c1
    refine ab_aload_n (i := 0) d_K_look_48 rfl rfl ?_
    refine ab_getR (ci := 10) (k := 3) (j := kx_now) d_K_look_49 v_475 rfl (by decide) (by decide) rfl r_kx_3 ?_
    refine ab_aload_n (i := 0) d_K_look_52 rfl rfl ?_
    refine ab_iload_n (i := 1) d_K_look_53 rfl rfl ?_
    obtain ⟨r2, hC, h⟩ := h
    refine ab_callV (me2 := mt_K_netWithout) (b := kx) (as := [.int v1]) (st := [.ref kx_now]) (rv := (some (.int r2))) (M2 := (I, L, ab_RR, n, nc, ns)) d_K_look_54 ce_K_netWithout v_1328 v_1330 v_64 (by decide) rfl (Nat.le_of_ble_eq_true rfl) hC (Nat.le_refl _) (Nat.le_refl _) hc hs (fun j h9 => by cases h9) (fun _ _ => rfl) ?_
    show ab_E w (d + 1) mt_K_look 57 [.ref kx, .int v1, .int v2, .int s0, .null] [.int r2, .ref kx_now] (I, L, ab_RR, n, nc, ns) res
    obtain ⟨r3, hC, h⟩ := h
    refine ab_callV (me2 := mt_State_fitsNoted) (b := kx_now) (as := [.int r2]) (st := []) (rv := (some (.int r3))) (M2 := (I, L, ab_RR, n, nc, ns)) d_K_look_57 ce_State_fitsNoted v_1324 v_1325 v_1326 (by decide) rfl (Nat.le_of_ble_eq_true rfl) hC (Nat.le_refl _) (Nat.le_refl _) hc hs (fun j h9 => by cases h9) (fun _ _ => rfl) ?_
    show ab_E w (d + 1) mt_K_look 60 [.ref kx, .int v1, .int v2, .int s0, .null] [.int r3] (I, L, ab_RR, n, nc, ns) res
    refine ab_if_eq (tgt := 67) d_K_look_60 (by decide) (fun c4 => ?_) (fun c4 => ?_)
    · have h := h.1 c4
      exact h
    · have h := h.2 c4
      refine ab_iconst (v := 1) d_K_look_63 rfl ?_
      refine ab_goto (tgt := 68) d_K_look_64 (by decide) ?_
      exact h
theorem q_K_look_67 {w : ab_Wd} {d n nc ns : Nat} {I : Nat → Nat → Int32} {L : Nat → Nat → Int64} {res : ab_Re} (v1 : Int32) (v2 : Int32) (v3 : Int32) (hc : nc ≤ res.2.2.2.2.2.1) (hs : ns ≤ res.2.2.2.2.2.2)
    (h : ab_E w (d + 1) mt_K_look 68 [.ref kx, .int v1, .int v2, .int v3, .null] [.int 0] (I, L, ab_RR, n, nc, ns) res) : ab_E w (d + 1) mt_K_look 67 [.ref kx, .int v1, .int v2, .int v3, .null] [] (I, L, ab_RR, n, nc, ns) res := by
  refine ab_iconst (v := 0) d_K_look_67 rfl ?_
  exact h
theorem q_K_look_68 {w : ab_Wd} {d n nc ns : Nat} {I : Nat → Nat → Int32} {L : Nat → Nat → Int64} {res : ab_Re} (v1 : Int32) (v2 : Int32) (v3 : Int32) (s0 : Int32) (hc : nc ≤ res.2.2.2.2.2.1) (hs : ns ≤ res.2.2.2.2.2.2)
    (h : ((v3 = 0 → (ab_E w (d + 1) mt_K_look 87 [.ref kx, .int v1, .int v2, .int v3, .int s0] [] (I, L, ab_RR, n, nc, ns) res)) ∧ (¬ v3 = 0 → ((s0 = 0 → (ab_E w (d + 1) mt_K_look 87 [.ref kx, .int v1, .int v2, .int v3, .int s0] [] (I, L, ab_RR, n, nc, ns) res)) ∧ (¬ s0 = 0 → (∃ (r3 : Int32), ab_C w d mt_K_partnerOf [.ref kx, .int v1] (I, L, ab_RR, n, nc, ns) (.inl (some (.int r3)), (I, L, ab_RR, n, nc, ns)) ∧ ab_E w (d + 1) mt_K_look 88 [.ref kx, .int v1, .int v2, .int v3, .int s0] [.int r3] (I, L, ab_RR, n, nc, ns) res)))))) : ab_E w (d + 1) mt_K_look 68 [.ref kx, .int v1, .int v2, .int v3, .null] [.int s0] (I, L, ab_RR, n, nc, ns) res := by
  refine ab_istore (i := 4) d_K_look_68 (by decide) (Or.inr rfl) ?_
  refine ab_iload_n (i := 3) d_K_look_70 rfl rfl ?_
  refine ab_if_eq (tgt := 87) d_K_look_71 (by decide) (fun c1 => ?_) (fun c1 => ?_)
  · have h := h.1 c1
    exact h
  · have h := h.2 c1
    refine ab_iload (i := 4) d_K_look_74 rfl ?_
    refine ab_if_eq (tgt := 87) d_K_look_76 (by decide) (fun c2 => ?_) (fun c2 => ?_)
    · have h := h.1 c2
      exact h
    · have h := h.2 c2
      refine ab_aload_n (i := 0) d_K_look_79 rfl rfl ?_
      refine ab_iload_n (i := 1) d_K_look_80 rfl rfl ?_
      obtain ⟨r3, hC, h⟩ := h
      refine ab_callV (me2 := mt_K_partnerOf) (b := kx) (as := [.int v1]) (st := []) (rv := (some (.int r3))) (M2 := (I, L, ab_RR, n, nc, ns)) d_K_look_81 ce_K_partnerOf v_1091 v_1093 v_47 (by decide) rfl (Nat.le_of_ble_eq_true rfl) hC (Nat.le_refl _) (Nat.le_refl _) hc hs (fun j h9 => by cases h9) (fun _ _ => rfl) ?_
      show ab_E w (d + 1) mt_K_look 84 [.ref kx, .int v1, .int v2, .int v3, .int s0] [.int r3] (I, L, ab_RR, n, nc, ns) res
      refine ab_goto (tgt := 88) d_K_look_84 (by decide) ?_
      exact h
theorem q_K_look_87 {w : ab_Wd} {d n nc ns : Nat} {I : Nat → Nat → Int32} {L : Nat → Nat → Int64} {res : ab_Re} (v1 : Int32) (v2 : Int32) (v3 : Int32) (v4 : Int32) (hc : nc ≤ res.2.2.2.2.2.1) (hs : ns ≤ res.2.2.2.2.2.2)
    (h : ab_E w (d + 1) mt_K_look 88 [.ref kx, .int v1, .int v2, .int v3, .int v4] [.int (-1)] (I, L, ab_RR, n, nc, ns) res) : ab_E w (d + 1) mt_K_look 87 [.ref kx, .int v1, .int v2, .int v3, .int v4] [] (I, L, ab_RR, n, nc, ns) res := by
  refine ab_iconst (v := (-1)) d_K_look_87 rfl ?_
  exact h
theorem q_K_look_88 {w : ab_Wd} {d n nc ns : Nat} {I : Nat → Nat → Int32} {L : Nat → Nat → Int64} {res : ab_Re} (v1 : Int32) (v2 : Int32) (v3 : Int32) (v4 : Int32) (s0 : Int32) (hc : nc ≤ res.2.2.2.2.2.1) (hs : ns ≤ res.2.2.2.2.2.2)
    (h : res = (.inl (some (.int s0)), (I, L, ab_RR, n, nc, ns))) : ab_E w (d + 1) mt_K_look 88 [.ref kx, .int v1, .int v2, .int v3, .int v4] [.int s0] (I, L, ab_RR, n, nc, ns) res := by
  exact ab_iret (ty := .int) d_K_look_88 rfl rfl h
theorem d_K_forget_0 : decode (ab_bc mt_K_forget) 0 = .ok (.aload_n 0, 1) := by decide +kernel
theorem d_K_forget_1 : decode (ab_bc mt_K_forget) 1 = .ok (.getfield 23, 3) := by decide +kernel
theorem d_K_forget_4 : decode (ab_bc mt_K_forget) 4 = .ok (.invokevirtual 393, 3) := by decide +kernel
theorem d_K_forget_7 : decode (ab_bc mt_K_forget) 7 = .ok (.return_, 1) := by decide +kernel
-- CableKeeper.forget()V over kx
theorem q_K_forget_0 {w : ab_Wd} {d n nc ns : Nat} {I : Nat → Nat → Int32} {L : Nat → Nat → Int64} {res : ab_Re}  (hc : nc ≤ res.2.2.2.2.2.1) (hs : ns ≤ res.2.2.2.2.2.2)
    (h : ∃ (I2 : Nat → Nat → Int32), ab_C w d mt_State_forgetNoted [.ref kx_now] (I, L, ab_RR, n, nc, ns) (.inl none, (I2, L, ab_RR, n, nc, ns)) ∧ res = (.inl none, (I2, L, ab_RR, n, nc, ns))) : ab_E w (d + 1) mt_K_forget 0 [.ref kx] [] (I, L, ab_RR, n, nc, ns) res := by
  refine ab_aload_n (i := 0) d_K_forget_0 rfl rfl ?_
  refine ab_getR (ci := 10) (k := 3) (j := kx_now) d_K_forget_1 v_475 rfl (by decide) (by decide) rfl r_kx_3 ?_
  obtain ⟨I2, hC, h⟩ := h
  refine ab_callV (me2 := mt_State_forgetNoted) (b := kx_now) (as := []) (st := []) (rv := none) (M2 := (I2, L, ab_RR, n, nc, ns)) d_K_forget_4 ce_State_forgetNoted v_659 v_660 v_661 (by decide) rfl (Nat.le_of_ble_eq_true rfl) hC (Nat.le_refl _) (Nat.le_refl _) hc hs (fun j h9 => by cases h9) (fun _ _ => rfl) ?_
  show ab_E w (d + 1) mt_K_forget 7 [.ref kx] [] (I2, L, ab_RR, n, nc, ns) res
  exact ab_vret d_K_forget_7 rfl h
theorem d_K_years_0 : decode (ab_bc mt_K_years) 0 = .ok (.iload_n 3, 1) := by decide +kernel
theorem d_K_years_1 : decode (ab_bc mt_K_years) 1 = .ok (.ifCond .lt 8, 3) := by decide +kernel
theorem d_K_years_4 : decode (ab_bc mt_K_years) 4 = .ok (.iload_n 3, 1) := by decide +kernel
theorem d_K_years_5 : decode (ab_bc mt_K_years) 5 = .ok (.iconst 2, 1) := by decide +kernel
theorem d_K_years_6 : decode (ab_bc mt_K_years) 6 = .ok (.if_icmp .le 11, 3) := by decide +kernel
theorem d_K_years_9 : decode (ab_bc mt_K_years) 9 = .ok (.new 183, 3) := by decide +kernel
theorem d_K_years_12 : decode (ab_bc mt_K_years) 12 = .ok (.dup, 1) := by decide +kernel
theorem d_K_years_13 : decode (ab_bc mt_K_years) 13 = .ok (.invokespecial 185, 3) := by decide +kernel
theorem d_K_years_16 : decode (ab_bc mt_K_years) 16 = .ok (.athrow, 1) := by decide +kernel
theorem d_K_years_17 : decode (ab_bc mt_K_years) 17 = .ok (.iload_n 2, 1) := by decide +kernel
theorem d_K_years_18 : decode (ab_bc mt_K_years) 18 = .ok (.ifCond .lt 9, 3) := by decide +kernel
theorem d_K_years_21 : decode (ab_bc mt_K_years) 21 = .ok (.iload_n 2, 1) := by decide +kernel
theorem d_K_years_22 : decode (ab_bc mt_K_years) 22 = .ok (.bipush 60, 2) := by decide +kernel
theorem d_K_years_24 : decode (ab_bc mt_K_years) 24 = .ok (.if_icmp .le 11, 3) := by decide +kernel
theorem d_K_years_27 : decode (ab_bc mt_K_years) 27 = .ok (.new 90, 3) := by decide +kernel
theorem d_K_years_30 : decode (ab_bc mt_K_years) 30 = .ok (.dup, 1) := by decide +kernel
theorem d_K_years_31 : decode (ab_bc mt_K_years) 31 = .ok (.invokespecial 92, 3) := by decide +kernel
theorem d_K_years_34 : decode (ab_bc mt_K_years) 34 = .ok (.athrow, 1) := by decide +kernel
theorem d_K_years_35 : decode (ab_bc mt_K_years) 35 = .ok (.aload_n 0, 1) := by decide +kernel
theorem d_K_years_36 : decode (ab_bc mt_K_years) 36 = .ok (.getfield 51, 3) := by decide +kernel
theorem d_K_years_39 : decode (ab_bc mt_K_years) 39 = .ok (.aload_n 0, 1) := by decide +kernel
theorem d_K_years_40 : decode (ab_bc mt_K_years) 40 = .ok (.getfield 23, 3) := by decide +kernel
theorem d_K_years_43 : decode (ab_bc mt_K_years) 43 = .ok (.getfield 110, 3) := by decide +kernel
theorem d_K_years_46 : decode (ab_bc mt_K_years) 46 = .ok (.invokevirtual 396, 3) := by decide +kernel
theorem d_K_years_49 : decode (ab_bc mt_K_years) 49 = .ok (.aload_n 0, 1) := by decide +kernel
theorem d_K_years_50 : decode (ab_bc mt_K_years) 50 = .ok (.getfield 55, 3) := by decide +kernel
theorem d_K_years_53 : decode (ab_bc mt_K_years) 53 = .ok (.aload_n 0, 1) := by decide +kernel
theorem d_K_years_54 : decode (ab_bc mt_K_years) 54 = .ok (.getfield 51, 3) := by decide +kernel
theorem d_K_years_57 : decode (ab_bc mt_K_years) 57 = .ok (.aload_n 0, 1) := by decide +kernel
theorem d_K_years_58 : decode (ab_bc mt_K_years) 58 = .ok (.getfield 51, 3) := by decide +kernel
theorem d_K_years_61 : decode (ab_bc mt_K_years) 61 = .ok (.getfield 119, 3) := by decide +kernel
theorem d_K_years_64 : decode (ab_bc mt_K_years) 64 = .ok (.invokevirtual 287, 3) := by decide +kernel
theorem d_K_years_67 : decode (ab_bc mt_K_years) 67 = .ok (.iconst 0, 1) := by decide +kernel
theorem d_K_years_68 : decode (ab_bc mt_K_years) 68 = .ok (.istore 4, 2) := by decide +kernel
theorem d_K_years_70 : decode (ab_bc mt_K_years) 70 = .ok (.iload_n 1, 1) := by decide +kernel
theorem d_K_years_71 : decode (ab_bc mt_K_years) 71 = .ok (.istore 5, 2) := by decide +kernel
theorem d_K_years_73 : decode (ab_bc mt_K_years) 73 = .ok (.iconst 0, 1) := by decide +kernel
theorem d_K_years_74 : decode (ab_bc mt_K_years) 74 = .ok (.istore 6, 2) := by decide +kernel
theorem d_K_years_76 : decode (ab_bc mt_K_years) 76 = .ok (.iload 6, 2) := by decide +kernel
theorem d_K_years_78 : decode (ab_bc mt_K_years) 78 = .ok (.iload_n 2, 1) := by decide +kernel
theorem d_K_years_79 : decode (ab_bc mt_K_years) 79 = .ok (.if_icmp .ge 41, 3) := by decide +kernel
theorem d_K_years_82 : decode (ab_bc mt_K_years) 82 = .ok (.aload_n 0, 1) := by decide +kernel
theorem d_K_years_83 : decode (ab_bc mt_K_years) 83 = .ok (.getfield 55, 3) := by decide +kernel
theorem d_K_years_86 : decode (ab_bc mt_K_years) 86 = .ok (.getfield 122, 3) := by decide +kernel
theorem d_K_years_89 : decode (ab_bc mt_K_years) 89 = .ok (.istore 7, 2) := by decide +kernel
theorem d_K_years_91 : decode (ab_bc mt_K_years) 91 = .ok (.aload_n 0, 1) := by decide +kernel
theorem d_K_years_92 : decode (ab_bc mt_K_years) 92 = .ok (.iload 5, 2) := by decide +kernel
theorem d_K_years_94 : decode (ab_bc mt_K_years) 94 = .ok (.invokevirtual 399, 3) := by decide +kernel
theorem d_K_years_97 : decode (ab_bc mt_K_years) 97 = .ok (.istore 5, 2) := by decide +kernel
theorem d_K_years_99 : decode (ab_bc mt_K_years) 99 = .ok (.aload_n 0, 1) := by decide +kernel
theorem d_K_years_100 : decode (ab_bc mt_K_years) 100 = .ok (.getfield 55, 3) := by decide +kernel
theorem d_K_years_103 : decode (ab_bc mt_K_years) 103 = .ok (.getfield 122, 3) := by decide +kernel
theorem d_K_years_106 : decode (ab_bc mt_K_years) 106 = .ok (.iload 7, 2) := by decide +kernel
theorem d_K_years_108 : decode (ab_bc mt_K_years) 108 = .ok (.if_icmp .eq 6, 3) := by decide +kernel
theorem d_K_years_111 : decode (ab_bc mt_K_years) 111 = .ok (.iinc 4 1, 3) := by decide +kernel
theorem d_K_years_114 : decode (ab_bc mt_K_years) 114 = .ok (.iinc 6 1, 3) := by decide +kernel
theorem d_K_years_117 : decode (ab_bc mt_K_years) 117 = .ok (.goto (-41), 3) := by decide +kernel
theorem d_K_years_120 : decode (ab_bc mt_K_years) 120 = .ok (.iload_n 3, 1) := by decide +kernel
theorem d_K_years_121 : decode (ab_bc mt_K_years) 121 = .ok (.ifCond .ne 11, 3) := by decide +kernel
theorem d_K_years_124 : decode (ab_bc mt_K_years) 124 = .ok (.aload_n 0, 1) := by decide +kernel
theorem d_K_years_125 : decode (ab_bc mt_K_years) 125 = .ok (.getfield 55, 3) := by decide +kernel
theorem d_K_years_128 : decode (ab_bc mt_K_years) 128 = .ok (.getfield 125, 3) := by decide +kernel
theorem d_K_years_131 : decode (ab_bc mt_K_years) 131 = .ok (.ireturn, 1) := by decide +kernel
theorem d_K_years_132 : decode (ab_bc mt_K_years) 132 = .ok (.iload_n 3, 1) := by decide +kernel
theorem d_K_years_133 : decode (ab_bc mt_K_years) 133 = .ok (.iconst 1, 1) := by decide +kernel
theorem d_K_years_134 : decode (ab_bc mt_K_years) 134 = .ok (.if_icmp .ne 8, 3) := by decide +kernel
theorem d_K_years_137 : decode (ab_bc mt_K_years) 137 = .ok (.iload 4, 2) := by decide +kernel
theorem d_K_years_139 : decode (ab_bc mt_K_years) 139 = .ok (.goto 10, 3) := by decide +kernel
theorem d_K_years_142 : decode (ab_bc mt_K_years) 142 = .ok (.aload_n 0, 1) := by decide +kernel
theorem d_K_years_143 : decode (ab_bc mt_K_years) 143 = .ok (.getfield 55, 3) := by decide +kernel
theorem d_K_years_146 : decode (ab_bc mt_K_years) 146 = .ok (.getfield 128, 3) := by decide +kernel
theorem d_K_years_149 : decode (ab_bc mt_K_years) 149 = .ok (.ireturn, 1) := by decide +kernel
-- CableKeeper.years(III)I over kx
theorem q_K_years_0 {w : ab_Wd} {d n nc ns : Nat} {I : Nat → Nat → Int32} {L : Nat → Nat → Int64} {res : ab_Re} (v1 : Int32) (v2 : Int32) (v3 : Int32) (h8 : 8 ≤ (d + 1)) (hc : nc ≤ res.2.2.2.2.2.1) (hs : ns ≤ res.2.2.2.2.2.2)
    (h : ((v3 < 0 → (ab_E w (d + 1) mt_K_years 9 [.ref kx, .int v1, .int v2, .int v3, .null, .null, .null, .null] [] (I, L, ab_RR, n, nc, ns) res)) ∧ (¬ v3 < 0 → ((v3 ≤ 2 → ((v2 < 0 → (ab_E w (d + 1) mt_K_years 27 [.ref kx, .int v1, .int v2, .int v3, .null, .null, .null, .null] [] (I, L, ab_RR, n, nc, ns) res)) ∧ (¬ v2 < 0 → ((v2 ≤ 60 → (∃ (I6 : Nat → Nat → Int32), ab_C w d mt_Cables_copy [.ref kx_trial, .ref kx_now_cables] (I, L, ab_RR, n, nc, ns) (.inl none, (I6, L, ab_RR, n, nc, ns)) ∧ ∃ (I8 : Nat → Nat → Int32), ab_C w d mt_Forest_grow [.ref kx_trialNet, .ref kx_trial, .int (I6 kx_trial 2)] (I6, L, ab_RR, n, nc, ns) (.inl none, (I8, L, ab_RR, n, nc, ns)) ∧ ab_E w (d + 1) mt_K_years 76 [.ref kx, .int v1, .int v2, .int v3, .int 0, .int v1, .int 0, .null] [] (I8, L, ab_RR, n, nc, ns) res)) ∧ (¬ v2 ≤ 60 → (ab_E w (d + 1) mt_K_years 27 [.ref kx, .int v1, .int v2, .int v3, .null, .null, .null, .null] [] (I, L, ab_RR, n, nc, ns) res)))))) ∧ (¬ v3 ≤ 2 → (ab_E w (d + 1) mt_K_years 9 [.ref kx, .int v1, .int v2, .int v3, .null, .null, .null, .null] [] (I, L, ab_RR, n, nc, ns) res)))))) : ab_E w (d + 1) mt_K_years 0 [.ref kx, .int v1, .int v2, .int v3, .null, .null, .null, .null] [] (I, L, ab_RR, n, nc, ns) res := by
  refine ab_iload_n (i := 3) d_K_years_0 rfl rfl ?_
  refine ab_if_lt (tgt := 9) d_K_years_1 (by decide) (fun c1 => ?_) (fun c1 => ?_)
  · have h := h.1 c1
    exact h
  · have h := h.2 c1
    refine ab_iload_n (i := 3) d_K_years_4 rfl rfl ?_
    refine ab_iconst (v := 2) d_K_years_5 rfl ?_
    refine ab_icmp_le (tgt := 17) d_K_years_6 (by decide) (fun c2 => ?_) (fun c2 => ?_)
    · have h := h.1 c2
      refine ab_iload_n (i := 2) d_K_years_17 rfl rfl ?_
      refine ab_if_lt (tgt := 27) d_K_years_18 (by decide) (fun c3 => ?_) (fun c3 => ?_)
      · have h := h.1 c3
        exact h
      · have h := h.2 c3
        refine ab_iload_n (i := 2) d_K_years_21 rfl rfl ?_
        refine ab_bipush (v := 60) d_K_years_22 rfl ?_
        refine ab_icmp_le (tgt := 35) d_K_years_24 (by decide) (fun c4 => ?_) (fun c4 => ?_)
        · have h := h.1 c4
          refine ab_aload_n (i := 0) d_K_years_35 rfl rfl ?_
          refine ab_getR (ci := 10) (k := 8) (j := kx_trial) d_K_years_36 v_480 rfl (by decide) (by decide) rfl r_kx_8 ?_
          refine ab_aload_n (i := 0) d_K_years_39 rfl rfl ?_
          refine ab_getR (ci := 10) (k := 3) (j := kx_now) d_K_years_40 v_475 rfl (by decide) (by decide) rfl r_kx_3 ?_
          refine ab_getR (ci := 6) (k := 0) (j := kx_now_cables) d_K_years_43 v_294 rfl (by decide) (by decide) rfl r_kx_now_0 ?_
          obtain ⟨I6, hC, h⟩ := h
          refine ab_callV (me2 := mt_Cables_copy) (b := kx_trial) (as := [.ref kx_now_cables]) (st := []) (rv := none) (M2 := (I6, L, ab_RR, n, nc, ns)) d_K_years_46 ce_Cables_copy v_983 v_672 v_673 (by decide) rfl (Nat.le_of_ble_eq_true rfl) hC (Nat.le_refl _) (Nat.le_refl _) hc hs (fun j h9 => by cases h9) (fun _ _ => rfl) ?_
          show ab_E w (d + 1) mt_K_years 49 [.ref kx, .int v1, .int v2, .int v3, .null, .null, .null, .null] [] (I6, L, ab_RR, n, nc, ns) res
          refine ab_aload_n (i := 0) d_K_years_49 rfl rfl ?_
          refine ab_getR (ci := 10) (k := 9) (j := kx_trialNet) d_K_years_50 v_481 rfl (by decide) (by decide) rfl r_kx_9 ?_
          refine ab_aload_n (i := 0) d_K_years_53 rfl rfl ?_
          refine ab_getR (ci := 10) (k := 8) (j := kx_trial) d_K_years_54 v_480 rfl (by decide) (by decide) rfl r_kx_8 ?_
          refine ab_aload_n (i := 0) d_K_years_57 rfl rfl ?_
          refine ab_getR (ci := 10) (k := 8) (j := kx_trial) d_K_years_58 v_480 rfl (by decide) (by decide) rfl r_kx_8 ?_
          refine ab_getI (ci := 1) (k := 2) d_K_years_61 v_202 rfl (by decide) (by decide) rfl ?_
          obtain ⟨I8, hC, h⟩ := h
          refine ab_callV (me2 := mt_Forest_grow) (b := kx_trialNet) (as := [.ref kx_trial, .int (I6 kx_trial 2)]) (st := []) (rv := none) (M2 := (I8, L, ab_RR, n, nc, ns)) d_K_years_64 ce_Forest_grow v_440 v_441 v_442 (by decide) rfl (Nat.le_of_ble_eq_true rfl) hC (Nat.le_refl _) (Nat.le_refl _) hc hs (fun j h9 => by cases h9) (fun _ _ => rfl) ?_
          show ab_E w (d + 1) mt_K_years 67 [.ref kx, .int v1, .int v2, .int v3, .null, .null, .null, .null] [] (I8, L, ab_RR, n, nc, ns) res
          refine ab_iconst (v := 0) d_K_years_67 rfl ?_
          refine ab_istore (i := 4) d_K_years_68 (by decide) (Or.inr rfl) ?_
          refine ab_iload_n (i := 1) d_K_years_70 rfl rfl ?_
          refine ab_istore (i := 5) d_K_years_71 (by decide) (Or.inr rfl) ?_
          refine ab_iconst (v := 0) d_K_years_73 rfl ?_
          refine ab_istore (i := 6) d_K_years_74 (by decide) (Or.inr rfl) ?_
          exact h
        · have h := h.2 c4
          exact h
    · have h := h.2 c2
      exact h
theorem q_K_years_9 {w : ab_Wd} {d n nc ns : Nat} {I : Nat → Nat → Int32} {L : Nat → Nat → Int64} {res : ab_Re} (v1 : Int32) (v2 : Int32) (v3 : Int32) (h8 : 8 ≤ (d + 1)) (hc : nc ≤ res.2.2.2.2.2.1) (hs : ns ≤ res.2.2.2.2.2.2)
    (h : res = (.inr "java/util/NoSuchElementException", (I, L, ab_RR, n, nc + 1, ns + 6))) : ab_E w (d + 1) mt_K_years 9 [.ref kx, .int v1, .int v2, .int v3, .null, .null, .null, .null] [] (I, L, ab_RR, n, nc, ns) res := by
  exact ab_throw (E := "java/util/NoSuchElementException") d_K_years_9 d_K_years_12 d_K_years_13 d_K_years_16 (by decide +kernel) rfl v_1049 v_163 x3_K_185 x4_K_185 h8 (Nat.le_of_ble_eq_true rfl) h
theorem q_K_years_27 {w : ab_Wd} {d n nc ns : Nat} {I : Nat → Nat → Int32} {L : Nat → Nat → Int64} {res : ab_Re} (v1 : Int32) (v2 : Int32) (v3 : Int32) (h8 : 8 ≤ (d + 1)) (hc : nc ≤ res.2.2.2.2.2.1) (hs : ns ≤ res.2.2.2.2.2.2)
    (h : res = (.inr "java/lang/IllegalArgumentException", (I, L, ab_RR, n, nc + 1, ns + 6))) : ab_E w (d + 1) mt_K_years 27 [.ref kx, .int v1, .int v2, .int v3, .null, .null, .null, .null] [] (I, L, ab_RR, n, nc, ns) res := by
  exact ab_throw (E := "java/lang/IllegalArgumentException") d_K_years_27 d_K_years_30 d_K_years_31 d_K_years_34 (by decide +kernel) rfl v_698 v_155 x3_K_92 x4_K_92 h8 (Nat.le_of_ble_eq_true rfl) h
theorem q_K_years_76 {w : ab_Wd} {d n nc ns : Nat} {I : Nat → Nat → Int32} {L : Nat → Nat → Int64} {res : ab_Re} (v1 : Int32) (v2 : Int32) (v3 : Int32) (v4 : Int32) (v5 : Int32) (v6 : Int32) (h8 : 8 ≤ (d + 1)) (hc : nc ≤ res.2.2.2.2.2.1) (hs : ns ≤ res.2.2.2.2.2.2)
    (h : ((v2 ≤ v6 → ((¬ v3 = 0 → ((¬ v3 = 1 → (ab_E w (d + 1) mt_K_years 149 [.ref kx, .int v1, .int v2, .int v3, .int v4, .int v5, .int v6, .null] [.int (I kx_trialNet 4)] (I, L, ab_RR, n, nc, ns) res)) ∧ (v3 = 1 → (ab_E w (d + 1) mt_K_years 149 [.ref kx, .int v1, .int v2, .int v3, .int v4, .int v5, .int v6, .null] [.int v4] (I, L, ab_RR, n, nc, ns) res)))) ∧ (v3 = 0 → (res = (.inl (some (.int (I kx_trialNet 3))), (I, L, ab_RR, n, nc, ns)))))) ∧ (¬ v2 ≤ v6 → (∃ (r4 : Int32) (I5 : Nat → Nat → Int32), ab_C w d mt_K_passYear [.ref kx, .int v5] (I, L, ab_RR, n, nc, ns) (.inl (some (.int r4)), (I5, L, ab_RR, n, nc, ns)) ∧ (((I5 kx_trialNet 2) = (I kx_trialNet 2) → (ab_E w (d + 1) mt_K_years 114 [.ref kx, .int v1, .int v2, .int v3, .int v4, .int r4, .int v6, .int (I kx_trialNet 2)] [] (I5, L, ab_RR, n, nc, ns) res)) ∧ (¬ (I5 kx_trialNet 2) = (I kx_trialNet 2) → (ab_E w (d + 1) mt_K_years 114 [.ref kx, .int v1, .int v2, .int v3, .int (v4 + 1), .int r4, .int v6, .int (I kx_trialNet 2)] [] (I5, L, ab_RR, n, nc, ns) res))))))) : ab_E w (d + 1) mt_K_years 76 [.ref kx, .int v1, .int v2, .int v3, .int v4, .int v5, .int v6, .null] [] (I, L, ab_RR, n, nc, ns) res := by
  refine ab_iload (i := 6) d_K_years_76 rfl ?_
  refine ab_iload_n (i := 2) d_K_years_78 rfl rfl ?_
  refine ab_icmp_ge (tgt := 120) d_K_years_79 (by decide) (fun c1 => ?_) (fun c1 => ?_)
  · have h := h.1 c1
    refine ab_iload_n (i := 3) d_K_years_120 rfl rfl ?_
    refine ab_if_ne (tgt := 132) d_K_years_121 (by decide) (fun c2 => ?_) (fun c2 => ?_)
    · have h := h.1 c2
      refine ab_iload_n (i := 3) d_K_years_132 rfl rfl ?_
      refine ab_iconst (v := 1) d_K_years_133 rfl ?_
      refine ab_icmp_ne (tgt := 142) d_K_years_134 (by decide) (fun c3 => ?_) (fun c3 => ?_)
      · have h := h.1 c3
        refine ab_aload_n (i := 0) d_K_years_142 rfl rfl ?_
        refine ab_getR (ci := 10) (k := 9) (j := kx_trialNet) d_K_years_143 v_481 rfl (by decide) (by decide) rfl r_kx_9 ?_
        refine ab_getI (ci := 2) (k := 4) d_K_years_146 v_339 rfl (by decide) (by decide) rfl ?_
        exact h
      · have h := h.2 c3
        refine ab_iload (i := 4) d_K_years_137 rfl ?_
        refine ab_goto (tgt := 149) d_K_years_139 (by decide) ?_
        exact h
    · have h := h.2 c2
      refine ab_aload_n (i := 0) d_K_years_124 rfl rfl ?_
      refine ab_getR (ci := 10) (k := 9) (j := kx_trialNet) d_K_years_125 v_481 rfl (by decide) (by decide) rfl r_kx_9 ?_
      refine ab_getI (ci := 2) (k := 3) d_K_years_128 v_337 rfl (by decide) (by decide) rfl ?_
      exact ab_iret (ty := .int) d_K_years_131 rfl rfl h
  · have h := h.2 c1
    refine ab_aload_n (i := 0) d_K_years_82 rfl rfl ?_
    refine ab_getR (ci := 10) (k := 9) (j := kx_trialNet) d_K_years_83 v_481 rfl (by decide) (by decide) rfl r_kx_9 ?_
    refine ab_getI (ci := 2) (k := 2) d_K_years_86 v_335 rfl (by decide) (by decide) rfl ?_
    refine ab_istore (i := 7) d_K_years_89 (by decide) (Or.inr rfl) ?_
    refine ab_aload_n (i := 0) d_K_years_91 rfl rfl ?_
    refine ab_iload (i := 5) d_K_years_92 rfl ?_
    obtain ⟨r4, I5, hC, h⟩ := h
    refine ab_callV (me2 := mt_K_passYear) (b := kx) (as := [.int v5]) (st := []) (rv := (some (.int r4))) (M2 := (I5, L, ab_RR, n, nc, ns)) d_K_years_94 ce_K_passYear v_1346 v_1348 v_65 (by decide) rfl (Nat.le_of_ble_eq_true rfl) hC (Nat.le_refl _) (Nat.le_refl _) hc hs (fun j h9 => by cases h9) (fun _ _ => rfl) ?_
    show ab_E w (d + 1) mt_K_years 97 [.ref kx, .int v1, .int v2, .int v3, .int v4, .int v5, .int v6, .int (I kx_trialNet 2)] [.int r4] (I5, L, ab_RR, n, nc, ns) res
    refine ab_istore (i := 5) d_K_years_97 (by decide) (Or.inr rfl) ?_
    refine ab_aload_n (i := 0) d_K_years_99 rfl rfl ?_
    refine ab_getR (ci := 10) (k := 9) (j := kx_trialNet) d_K_years_100 v_481 rfl (by decide) (by decide) rfl r_kx_9 ?_
    refine ab_getI (ci := 2) (k := 2) d_K_years_103 v_335 rfl (by decide) (by decide) rfl ?_
    refine ab_iload (i := 7) d_K_years_106 rfl ?_
    refine ab_icmp_eq (tgt := 114) d_K_years_108 (by decide) (fun c6 => ?_) (fun c6 => ?_)
    · have h := h.1 c6
      exact h
    · have h := h.2 c6
      refine ab_iinc (i := 4) (v := (v4 + 1)) d_K_years_111 rfl rfl (by decide) (Or.inr rfl) ?_
      exact h
theorem q_K_years_114 {w : ab_Wd} {d n nc ns : Nat} {I : Nat → Nat → Int32} {L : Nat → Nat → Int64} {res : ab_Re} (v1 : Int32) (v2 : Int32) (v3 : Int32) (v4 : Int32) (v5 : Int32) (v6 : Int32) (v7 : Int32) (h8 : 8 ≤ (d + 1)) (hc : nc ≤ res.2.2.2.2.2.1) (hs : ns ≤ res.2.2.2.2.2.2)
    (h : ab_E w (d + 1) mt_K_years 76 [.ref kx, .int v1, .int v2, .int v3, .int v4, .int v5, .int (v6 + 1), .null] [] (I, L, ab_RR, n, nc, ns) res) : ab_E w (d + 1) mt_K_years 114 [.ref kx, .int v1, .int v2, .int v3, .int v4, .int v5, .int v6, .int v7] [] (I, L, ab_RR, n, nc, ns) res := by
  refine ab_iinc (i := 6) (v := (v6 + 1)) d_K_years_114 rfl rfl (by decide) (Or.inr rfl) ?_
  refine ab_goto (tgt := 76) d_K_years_117 (by decide) ?_
  refine ab_drop 7 ?_
  exact h
theorem q_K_years_149 {w : ab_Wd} {d n nc ns : Nat} {I : Nat → Nat → Int32} {L : Nat → Nat → Int64} {res : ab_Re} (v1 : Int32) (v2 : Int32) (v3 : Int32) (v4 : Int32) (v5 : Int32) (v6 : Int32) (s0 : Int32) (h8 : 8 ≤ (d + 1)) (hc : nc ≤ res.2.2.2.2.2.1) (hs : ns ≤ res.2.2.2.2.2.2)
    (h : res = (.inl (some (.int s0)), (I, L, ab_RR, n, nc, ns))) : ab_E w (d + 1) mt_K_years 149 [.ref kx, .int v1, .int v2, .int v3, .int v4, .int v5, .int v6, .null] [.int s0] (I, L, ab_RR, n, nc, ns) res := by
  exact ab_iret (ty := .int) d_K_years_149 rfl rfl h
theorem d_K_image_0 : decode (ab_bc mt_K_image) 0 = .ok (.aload_n 0, 1) := by decide +kernel
theorem d_K_image_1 : decode (ab_bc mt_K_image) 1 = .ok (.getfield 27, 3) := by decide +kernel
theorem d_K_image_4 : decode (ab_bc mt_K_image) 4 = .ok (.aload_n 0, 1) := by decide +kernel
theorem d_K_image_5 : decode (ab_bc mt_K_image) 5 = .ok (.getfield 23, 3) := by decide +kernel
theorem d_K_image_8 : decode (ab_bc mt_K_image) 8 = .ok (.invokevirtual 402, 3) := by decide +kernel
theorem d_K_image_11 : decode (ab_bc mt_K_image) 11 = .ok (.aload_n 0, 1) := by decide +kernel
theorem d_K_image_12 : decode (ab_bc mt_K_image) 12 = .ok (.iconst 1, 1) := by decide +kernel
theorem d_K_image_13 : decode (ab_bc mt_K_image) 13 = .ok (.putfield 30, 3) := by decide +kernel
theorem d_K_image_16 : decode (ab_bc mt_K_image) 16 = .ok (.return_, 1) := by decide +kernel
-- CableKeeper.image()V over kx
theorem q_K_image_0 {w : ab_Wd} {d n nc ns : Nat} {I : Nat → Nat → Int32} {L : Nat → Nat → Int64} {res : ab_Re}  (hc : nc ≤ res.2.2.2.2.2.1) (hs : ns ≤ res.2.2.2.2.2.2)
    (h : ∃ (I2 : Nat → Nat → Int32), ab_C w d mt_State_copy [.ref kx_kept, .ref kx_now] (I, L, ab_RR, n, nc, ns) (.inl none, (I2, L, ab_RR, n, nc, ns)) ∧ res = (.inl none, ((ab_up I2 kx 5 1), L, ab_RR, n, nc, ns))) : ab_E w (d + 1) mt_K_image 0 [.ref kx] [] (I, L, ab_RR, n, nc, ns) res := by
  refine ab_aload_n (i := 0) d_K_image_0 rfl rfl ?_
  refine ab_getR (ci := 10) (k := 4) (j := kx_kept) d_K_image_1 v_476 rfl (by decide) (by decide) rfl r_kx_4 ?_
  refine ab_aload_n (i := 0) d_K_image_4 rfl rfl ?_
  refine ab_getR (ci := 10) (k := 3) (j := kx_now) d_K_image_5 v_475 rfl (by decide) (by decide) rfl r_kx_3 ?_
  obtain ⟨I2, hC, h⟩ := h
  refine ab_callV (me2 := mt_State_copy) (b := kx_kept) (as := [.ref kx_now]) (st := []) (rv := none) (M2 := (I2, L, ab_RR, n, nc, ns)) d_K_image_8 ce_State_copy v_667 v_668 v_669 (by decide) rfl (Nat.le_of_ble_eq_true rfl) hC (Nat.le_refl _) (Nat.le_refl _) hc hs (fun j h9 => by cases h9) (fun _ _ => rfl) ?_
  show ab_E w (d + 1) mt_K_image 11 [.ref kx] [] (I2, L, ab_RR, n, nc, ns) res
  refine ab_aload_n (i := 0) d_K_image_11 rfl rfl ?_
  refine ab_iconst (v := 1) d_K_image_12 rfl ?_
  refine ab_putI (ci := 10) (k := 5) d_K_image_13 v_477 rfl (by decide) (by decide) rfl (Or.inl rfl) rfl rfl ?_
  exact ab_vret d_K_image_16 rfl h
theorem d_K_restore_0 : decode (ab_bc mt_K_restore) 0 = .ok (.aload_n 0, 1) := by decide +kernel
theorem d_K_restore_1 : decode (ab_bc mt_K_restore) 1 = .ok (.getfield 30, 3) := by decide +kernel
theorem d_K_restore_4 : decode (ab_bc mt_K_restore) 4 = .ok (.ifCond .ne 5, 3) := by decide +kernel
theorem d_K_restore_7 : decode (ab_bc mt_K_restore) 7 = .ok (.iconst 0, 1) := by decide +kernel
theorem d_K_restore_8 : decode (ab_bc mt_K_restore) 8 = .ok (.ireturn, 1) := by decide +kernel
theorem d_K_restore_9 : decode (ab_bc mt_K_restore) 9 = .ok (.aload_n 0, 1) := by decide +kernel
theorem d_K_restore_10 : decode (ab_bc mt_K_restore) 10 = .ok (.getfield 23, 3) := by decide +kernel
theorem d_K_restore_13 : decode (ab_bc mt_K_restore) 13 = .ok (.aload_n 0, 1) := by decide +kernel
theorem d_K_restore_14 : decode (ab_bc mt_K_restore) 14 = .ok (.getfield 27, 3) := by decide +kernel
theorem d_K_restore_17 : decode (ab_bc mt_K_restore) 17 = .ok (.invokevirtual 402, 3) := by decide +kernel
theorem d_K_restore_20 : decode (ab_bc mt_K_restore) 20 = .ok (.aload_n 0, 1) := by decide +kernel
theorem d_K_restore_21 : decode (ab_bc mt_K_restore) 21 = .ok (.invokevirtual 83, 3) := by decide +kernel
theorem d_K_restore_24 : decode (ab_bc mt_K_restore) 24 = .ok (.iconst 1, 1) := by decide +kernel
theorem d_K_restore_25 : decode (ab_bc mt_K_restore) 25 = .ok (.ireturn, 1) := by decide +kernel
-- CableKeeper.restore()Z over kx
theorem q_K_restore_0 {w : ab_Wd} {d n nc ns : Nat} {I : Nat → Nat → Int32} {L : Nat → Nat → Int64} {res : ab_Re}  (hc : nc ≤ res.2.2.2.2.2.1) (hs : ns ≤ res.2.2.2.2.2.2)
    (h : ((¬ (I kx 5) = 0 → (∃ (I3 : Nat → Nat → Int32), ab_C w d mt_State_copy [.ref kx_now, .ref kx_kept] (I, L, ab_RR, n, nc, ns) (.inl none, (I3, L, ab_RR, n, nc, ns)) ∧ ∃ (I5 : Nat → Nat → Int32), ab_C w d mt_K_settle [.ref kx] (I3, L, ab_RR, n, nc, ns) (.inl none, (I5, L, ab_RR, n, nc, ns)) ∧ res = (.inl (some (.int 1)), (I5, L, ab_RR, n, nc, ns)))) ∧ ((I kx 5) = 0 → (res = (.inl (some (.int 0)), (I, L, ab_RR, n, nc, ns)))))) : ab_E w (d + 1) mt_K_restore 0 [.ref kx] [] (I, L, ab_RR, n, nc, ns) res := by
  refine ab_aload_n (i := 0) d_K_restore_0 rfl rfl ?_
  refine ab_getI (ci := 10) (k := 5) d_K_restore_1 v_477 rfl (by decide) (by decide) rfl ?_
  refine ab_if_ne (tgt := 9) d_K_restore_4 (by decide) (fun c1 => ?_) (fun c1 => ?_)
  · have h := h.1 c1
    refine ab_aload_n (i := 0) d_K_restore_9 rfl rfl ?_
    refine ab_getR (ci := 10) (k := 3) (j := kx_now) d_K_restore_10 v_475 rfl (by decide) (by decide) rfl r_kx_3 ?_
    refine ab_aload_n (i := 0) d_K_restore_13 rfl rfl ?_
    refine ab_getR (ci := 10) (k := 4) (j := kx_kept) d_K_restore_14 v_476 rfl (by decide) (by decide) rfl r_kx_4 ?_
    obtain ⟨I3, hC, h⟩ := h
    refine ab_callV (me2 := mt_State_copy) (b := kx_now) (as := [.ref kx_kept]) (st := []) (rv := none) (M2 := (I3, L, ab_RR, n, nc, ns)) d_K_restore_17 ce_State_copy v_667 v_668 v_669 (by decide) rfl (Nat.le_of_ble_eq_true rfl) hC (Nat.le_refl _) (Nat.le_refl _) hc hs (fun j h9 => by cases h9) (fun _ _ => rfl) ?_
    show ab_E w (d + 1) mt_K_restore 20 [.ref kx] [] (I3, L, ab_RR, n, nc, ns) res
    refine ab_aload_n (i := 0) d_K_restore_20 rfl rfl ?_
    obtain ⟨I5, hC, h⟩ := h
    refine ab_callV (me2 := mt_K_settle) (b := kx) (as := []) (st := []) (rv := none) (M2 := (I5, L, ab_RR, n, nc, ns)) d_K_restore_21 ce_K_settle v_436 v_438 v_0 (by decide) rfl (Nat.le_of_ble_eq_true rfl) hC (Nat.le_refl _) (Nat.le_refl _) hc hs (fun j h9 => by cases h9) (fun _ _ => rfl) ?_
    show ab_E w (d + 1) mt_K_restore 24 [.ref kx] [] (I5, L, ab_RR, n, nc, ns) res
    refine ab_iconst (v := 1) d_K_restore_24 rfl ?_
    exact ab_iret (ty := .boolean) d_K_restore_25 rfl rfl h
  · have h := h.2 c1
    refine ab_iconst (v := 0) d_K_restore_7 rfl ?_
    exact ab_iret (ty := .boolean) d_K_restore_8 rfl rfl h
theorem d_K_needCable_0 : decode (ab_bc mt_K_needCable) 0 = .ok (.aload_n 0, 1) := by decide +kernel
theorem d_K_needCable_1 : decode (ab_bc mt_K_needCable) 1 = .ok (.getfield 23, 3) := by decide +kernel
theorem d_K_needCable_4 : decode (ab_bc mt_K_needCable) 4 = .ok (.getfield 110, 3) := by decide +kernel
theorem d_K_needCable_7 : decode (ab_bc mt_K_needCable) 7 = .ok (.iload_n 1, 1) := by decide +kernel
theorem d_K_needCable_8 : decode (ab_bc mt_K_needCable) 8 = .ok (.invokevirtual 329, 3) := by decide +kernel
theorem d_K_needCable_11 : decode (ab_bc mt_K_needCable) 11 = .ok (.ifCond .ne 11, 3) := by decide +kernel
theorem d_K_needCable_14 : decode (ab_bc mt_K_needCable) 14 = .ok (.new 183, 3) := by decide +kernel
theorem d_K_needCable_17 : decode (ab_bc mt_K_needCable) 17 = .ok (.dup, 1) := by decide +kernel
theorem d_K_needCable_18 : decode (ab_bc mt_K_needCable) 18 = .ok (.invokespecial 185, 3) := by decide +kernel
theorem d_K_needCable_21 : decode (ab_bc mt_K_needCable) 21 = .ok (.athrow, 1) := by decide +kernel
theorem d_K_needCable_22 : decode (ab_bc mt_K_needCable) 22 = .ok (.return_, 1) := by decide +kernel
-- CableKeeper.needCable(I)V over kx
theorem q_K_needCable_0 {w : ab_Wd} {d n nc ns : Nat} {I : Nat → Nat → Int32} {L : Nat → Nat → Int64} {res : ab_Re} (v1 : Int32) (h8 : 8 ≤ (d + 1)) (hc : nc ≤ res.2.2.2.2.2.1) (hs : ns ≤ res.2.2.2.2.2.2)
    (h : ∃ (r1 : Int32), ab_C w d mt_Cables_has [.ref kx_now_cables, .int v1] (I, L, ab_RR, n, nc, ns) (.inl (some (.int r1)), (I, L, ab_RR, n, nc, ns)) ∧ ((¬ r1 = 0 → (res = (.inl none, (I, L, ab_RR, n, nc, ns)))) ∧ (r1 = 0 → (res = (.inr "java/util/NoSuchElementException", (I, L, ab_RR, n, nc + 1, ns + 6)))))) : ab_E w (d + 1) mt_K_needCable 0 [.ref kx, .int v1] [] (I, L, ab_RR, n, nc, ns) res := by
  refine ab_aload_n (i := 0) d_K_needCable_0 rfl rfl ?_
  refine ab_getR (ci := 10) (k := 3) (j := kx_now) d_K_needCable_1 v_475 rfl (by decide) (by decide) rfl r_kx_3 ?_
  refine ab_getR (ci := 6) (k := 0) (j := kx_now_cables) d_K_needCable_4 v_294 rfl (by decide) (by decide) rfl r_kx_now_0 ?_
  refine ab_iload_n (i := 1) d_K_needCable_7 rfl rfl ?_
  obtain ⟨r1, hC, h⟩ := h
  refine ab_callV (me2 := mt_Cables_has) (b := kx_now_cables) (as := [.int v1]) (st := []) (rv := (some (.int r1))) (M2 := (I, L, ab_RR, n, nc, ns)) d_K_needCable_8 ce_Cables_has v_567 v_568 v_569 (by decide) rfl (Nat.le_of_ble_eq_true rfl) hC (Nat.le_refl _) (Nat.le_refl _) hc hs (fun j h9 => by cases h9) (fun _ _ => rfl) ?_
  show ab_E w (d + 1) mt_K_needCable 11 [.ref kx, .int v1] [.int r1] (I, L, ab_RR, n, nc, ns) res
  refine ab_if_ne (tgt := 22) d_K_needCable_11 (by decide) (fun c2 => ?_) (fun c2 => ?_)
  · have h := h.1 c2
    exact ab_vret d_K_needCable_22 rfl h
  · have h := h.2 c2
    exact ab_throw (E := "java/util/NoSuchElementException") d_K_needCable_14 d_K_needCable_17 d_K_needCable_18 d_K_needCable_21 (by decide +kernel) rfl v_1049 v_163 x3_K_185 x4_K_185 h8 (Nat.le_of_ble_eq_true rfl) h
theorem d_K_needSite_0 : decode (ab_bc mt_K_needSite) 0 = .ok (.aload_n 0, 1) := by decide +kernel
theorem d_K_needSite_1 : decode (ab_bc mt_K_needSite) 1 = .ok (.getfield 23, 3) := by decide +kernel
theorem d_K_needSite_4 : decode (ab_bc mt_K_needSite) 4 = .ok (.getfield 110, 3) := by decide +kernel
theorem d_K_needSite_7 : decode (ab_bc mt_K_needSite) 7 = .ok (.iload_n 1, 1) := by decide +kernel
theorem d_K_needSite_8 : decode (ab_bc mt_K_needSite) 8 = .ok (.invokevirtual 355, 3) := by decide +kernel
theorem d_K_needSite_11 : decode (ab_bc mt_K_needSite) 11 = .ok (.ifCond .ne 11, 3) := by decide +kernel
theorem d_K_needSite_14 : decode (ab_bc mt_K_needSite) 14 = .ok (.new 183, 3) := by decide +kernel
theorem d_K_needSite_17 : decode (ab_bc mt_K_needSite) 17 = .ok (.dup, 1) := by decide +kernel
theorem d_K_needSite_18 : decode (ab_bc mt_K_needSite) 18 = .ok (.invokespecial 185, 3) := by decide +kernel
theorem d_K_needSite_21 : decode (ab_bc mt_K_needSite) 21 = .ok (.athrow, 1) := by decide +kernel
theorem d_K_needSite_22 : decode (ab_bc mt_K_needSite) 22 = .ok (.return_, 1) := by decide +kernel
-- CableKeeper.needSite(I)V over kx
theorem q_K_needSite_0 {w : ab_Wd} {d n nc ns : Nat} {I : Nat → Nat → Int32} {L : Nat → Nat → Int64} {res : ab_Re} (v1 : Int32) (h8 : 8 ≤ (d + 1)) (hc : nc ≤ res.2.2.2.2.2.1) (hs : ns ≤ res.2.2.2.2.2.2)
    (h : ∃ (r1 : Int32), ab_C w d mt_Cables_hasSite [.ref kx_now_cables, .int v1] (I, L, ab_RR, n, nc, ns) (.inl (some (.int r1)), (I, L, ab_RR, n, nc, ns)) ∧ ((¬ r1 = 0 → (res = (.inl none, (I, L, ab_RR, n, nc, ns)))) ∧ (r1 = 0 → (res = (.inr "java/util/NoSuchElementException", (I, L, ab_RR, n, nc + 1, ns + 6)))))) : ab_E w (d + 1) mt_K_needSite 0 [.ref kx, .int v1] [] (I, L, ab_RR, n, nc, ns) res := by
  refine ab_aload_n (i := 0) d_K_needSite_0 rfl rfl ?_
  refine ab_getR (ci := 10) (k := 3) (j := kx_now) d_K_needSite_1 v_475 rfl (by decide) (by decide) rfl r_kx_3 ?_
  refine ab_getR (ci := 6) (k := 0) (j := kx_now_cables) d_K_needSite_4 v_294 rfl (by decide) (by decide) rfl r_kx_now_0 ?_
  refine ab_iload_n (i := 1) d_K_needSite_7 rfl rfl ?_
  obtain ⟨r1, hC, h⟩ := h
  refine ab_callV (me2 := mt_Cables_hasSite) (b := kx_now_cables) (as := [.int v1]) (st := []) (rv := (some (.int r1))) (M2 := (I, L, ab_RR, n, nc, ns)) d_K_needSite_8 ce_Cables_hasSite v_633 v_634 v_635 (by decide) rfl (Nat.le_of_ble_eq_true rfl) hC (Nat.le_refl _) (Nat.le_refl _) hc hs (fun j h9 => by cases h9) (fun _ _ => rfl) ?_
  show ab_E w (d + 1) mt_K_needSite 11 [.ref kx, .int v1] [.int r1] (I, L, ab_RR, n, nc, ns) res
  refine ab_if_ne (tgt := 22) d_K_needSite_11 (by decide) (fun c2 => ?_) (fun c2 => ?_)
  · have h := h.1 c2
    exact ab_vret d_K_needSite_22 rfl h
  · have h := h.2 c2
    exact ab_throw (E := "java/util/NoSuchElementException") d_K_needSite_14 d_K_needSite_17 d_K_needSite_18 d_K_needSite_21 (by decide +kernel) rfl v_1049 v_163 x3_K_185 x4_K_185 h8 (Nat.le_of_ble_eq_true rfl) h
theorem d_K_needSound_0 : decode (ab_bc mt_K_needSound) 0 = .ok (.aload_n 0, 1) := by decide +kernel
theorem d_K_needSound_1 : decode (ab_bc mt_K_needSound) 1 = .ok (.getfield 23, 3) := by decide +kernel
theorem d_K_needSound_4 : decode (ab_bc mt_K_needSound) 4 = .ok (.getfield 110, 3) := by decide +kernel
theorem d_K_needSound_7 : decode (ab_bc mt_K_needSound) 7 = .ok (.iload_n 1, 1) := by decide +kernel
theorem d_K_needSound_8 : decode (ab_bc mt_K_needSound) 8 = .ok (.invokevirtual 201, 3) := by decide +kernel
theorem d_K_needSound_11 : decode (ab_bc mt_K_needSound) 11 = .ok (.ifCond .ne 11, 3) := by decide +kernel
theorem d_K_needSound_14 : decode (ab_bc mt_K_needSound) 14 = .ok (.new 405, 3) := by decide +kernel
theorem d_K_needSound_17 : decode (ab_bc mt_K_needSound) 17 = .ok (.dup, 1) := by decide +kernel
theorem d_K_needSound_18 : decode (ab_bc mt_K_needSound) 18 = .ok (.invokespecial 407, 3) := by decide +kernel
theorem d_K_needSound_21 : decode (ab_bc mt_K_needSound) 21 = .ok (.athrow, 1) := by decide +kernel
theorem d_K_needSound_22 : decode (ab_bc mt_K_needSound) 22 = .ok (.return_, 1) := by decide +kernel
-- CableKeeper.needSound(I)V over kx
theorem q_K_needSound_0 {w : ab_Wd} {d n nc ns : Nat} {I : Nat → Nat → Int32} {L : Nat → Nat → Int64} {res : ab_Re} (v1 : Int32) (h8 : 8 ≤ (d + 1)) (hc : nc ≤ res.2.2.2.2.2.1) (hs : ns ≤ res.2.2.2.2.2.2)
    (h : ∃ (r1 : Int32), ab_C w d mt_Cables_isSound [.ref kx_now_cables, .int v1] (I, L, ab_RR, n, nc, ns) (.inl (some (.int r1)), (I, L, ab_RR, n, nc, ns)) ∧ ((¬ r1 = 0 → (res = (.inl none, (I, L, ab_RR, n, nc, ns)))) ∧ (r1 = 0 → (res = (.inr "java/lang/IllegalStateException", (I, L, ab_RR, n, nc + 1, ns + 6)))))) : ab_E w (d + 1) mt_K_needSound 0 [.ref kx, .int v1] [] (I, L, ab_RR, n, nc, ns) res := by
  refine ab_aload_n (i := 0) d_K_needSound_0 rfl rfl ?_
  refine ab_getR (ci := 10) (k := 3) (j := kx_now) d_K_needSound_1 v_475 rfl (by decide) (by decide) rfl r_kx_3 ?_
  refine ab_getR (ci := 6) (k := 0) (j := kx_now_cables) d_K_needSound_4 v_294 rfl (by decide) (by decide) rfl r_kx_now_0 ?_
  refine ab_iload_n (i := 1) d_K_needSound_7 rfl rfl ?_
  obtain ⟨r1, hC, h⟩ := h
  refine ab_callV (me2 := mt_Cables_isSound) (b := kx_now_cables) (as := [.int v1]) (st := []) (rv := (some (.int r1))) (M2 := (I, L, ab_RR, n, nc, ns)) d_K_needSound_8 ce_Cables_isSound v_624 v_540 v_541 (by decide) rfl (Nat.le_of_ble_eq_true rfl) hC (Nat.le_refl _) (Nat.le_refl _) hc hs (fun j h9 => by cases h9) (fun _ _ => rfl) ?_
  show ab_E w (d + 1) mt_K_needSound 11 [.ref kx, .int v1] [.int r1] (I, L, ab_RR, n, nc, ns) res
  refine ab_if_ne (tgt := 22) d_K_needSound_11 (by decide) (fun c2 => ?_) (fun c2 => ?_)
  · have h := h.1 c2
    exact ab_vret d_K_needSound_22 rfl h
  · have h := h.2 c2
    exact ab_throw (E := "java/lang/IllegalStateException") d_K_needSound_14 d_K_needSound_17 d_K_needSound_18 d_K_needSound_21 (by decide +kernel) rfl v_1301 v_164 x3_K_407 x4_K_407 h8 (Nat.le_of_ble_eq_true rfl) h
theorem d_K_refuse_0 : decode (ab_bc mt_K_refuse) 0 = .ok (.aload_n 0, 1) := by decide +kernel
theorem d_K_refuse_1 : decode (ab_bc mt_K_refuse) 1 = .ok (.getfield 23, 3) := by decide +kernel
theorem d_K_refuse_4 : decode (ab_bc mt_K_refuse) 4 = .ok (.getfield 103, 3) := by decide +kernel
theorem d_K_refuse_7 : decode (ab_bc mt_K_refuse) 7 = .ok (.iload_n 1, 1) := by decide +kernel
theorem d_K_refuse_8 : decode (ab_bc mt_K_refuse) 8 = .ok (.dup2, 1) := by decide +kernel
theorem d_K_refuse_9 : decode (ab_bc mt_K_refuse) 9 = .ok (.iaload, 1) := by decide +kernel
theorem d_K_refuse_10 : decode (ab_bc mt_K_refuse) 10 = .ok (.iconst 1, 1) := by decide +kernel
theorem d_K_refuse_11 : decode (ab_bc mt_K_refuse) 11 = .ok (.iadd, 1) := by decide +kernel
theorem d_K_refuse_12 : decode (ab_bc mt_K_refuse) 12 = .ok (.iastore, 1) := by decide +kernel
theorem d_K_refuse_13 : decode (ab_bc mt_K_refuse) 13 = .ok (.iconst (-1), 1) := by decide +kernel
theorem d_K_refuse_14 : decode (ab_bc mt_K_refuse) 14 = .ok (.ireturn, 1) := by decide +kernel
-- CableKeeper.refuse(I)I over kx
theorem q_K_refuse_0 {w : ab_Wd} {d n nc ns : Nat} {I : Nat → Nat → Int32} {L : Nat → Nat → Int64} {res : ab_Re} (v1 : Int32) (hc : nc ≤ res.2.2.2.2.2.1) (hs : ns ≤ res.2.2.2.2.2.2)
    (h : (vp_in v1 3) ∧ res = (.inl (some (.int (-1))), ((ab_up I kx_now_refused v1.toNatClampNeg ((I kx_now_refused v1.toNatClampNeg) + 1)), L, ab_RR, n, nc, ns))) : ab_E w d mt_K_refuse 0 [.ref kx, .int v1] [] (I, L, ab_RR, n, nc, ns) res := by
  refine ab_aload_n (i := 0) d_K_refuse_0 rfl rfl ?_
  refine ab_getR (ci := 10) (k := 3) (j := kx_now) d_K_refuse_1 v_475 rfl (by decide) (by decide) rfl r_kx_3 ?_
  refine ab_getR (ci := 6) (k := 6) (j := kx_now_refused) d_K_refuse_4 v_306 rfl (by decide) (by decide) rfl r_kx_now_6 ?_
  refine ab_iload_n (i := 1) d_K_refuse_7 rfl rfl ?_
  refine ab_dup2 d_K_refuse_8 ?_
  have g1 := h.1; have h := h.2
  refine ab_iald d_K_refuse_9 rfl rfl g1 ?_
  refine ab_iconst (v := 1) d_K_refuse_10 rfl ?_
  refine ab_iadd d_K_refuse_11 ?_
  refine ab_iast d_K_refuse_12 rfl rfl g1 ?_
  refine ab_iconst (v := (-1)) d_K_refuse_13 rfl ?_
  exact ab_iret (ty := .int) d_K_refuse_14 rfl rfl h
theorem d_K_settle_0 : decode (ab_bc mt_K_settle) 0 = .ok (.aload_n 0, 1) := by decide +kernel
theorem d_K_settle_1 : decode (ab_bc mt_K_settle) 1 = .ok (.getfield 37, 3) := by decide +kernel
theorem d_K_settle_4 : decode (ab_bc mt_K_settle) 4 = .ok (.aload_n 0, 1) := by decide +kernel
theorem d_K_settle_5 : decode (ab_bc mt_K_settle) 5 = .ok (.getfield 23, 3) := by decide +kernel
theorem d_K_settle_8 : decode (ab_bc mt_K_settle) 8 = .ok (.getfield 110, 3) := by decide +kernel
theorem d_K_settle_11 : decode (ab_bc mt_K_settle) 11 = .ok (.aload_n 0, 1) := by decide +kernel
theorem d_K_settle_12 : decode (ab_bc mt_K_settle) 12 = .ok (.getfield 23, 3) := by decide +kernel
theorem d_K_settle_15 : decode (ab_bc mt_K_settle) 15 = .ok (.getfield 110, 3) := by decide +kernel
theorem d_K_settle_18 : decode (ab_bc mt_K_settle) 18 = .ok (.getfield 119, 3) := by decide +kernel
theorem d_K_settle_21 : decode (ab_bc mt_K_settle) 21 = .ok (.invokevirtual 287, 3) := by decide +kernel
theorem d_K_settle_24 : decode (ab_bc mt_K_settle) 24 = .ok (.aload_n 0, 1) := by decide +kernel
theorem d_K_settle_25 : decode (ab_bc mt_K_settle) 25 = .ok (.getfield 44, 3) := by decide +kernel
theorem d_K_settle_28 : decode (ab_bc mt_K_settle) 28 = .ok (.aload_n 0, 1) := by decide +kernel
theorem d_K_settle_29 : decode (ab_bc mt_K_settle) 29 = .ok (.getfield 23, 3) := by decide +kernel
theorem d_K_settle_32 : decode (ab_bc mt_K_settle) 32 = .ok (.getfield 110, 3) := by decide +kernel
theorem d_K_settle_35 : decode (ab_bc mt_K_settle) 35 = .ok (.aload_n 0, 1) := by decide +kernel
theorem d_K_settle_36 : decode (ab_bc mt_K_settle) 36 = .ok (.getfield 37, 3) := by decide +kernel
theorem d_K_settle_39 : decode (ab_bc mt_K_settle) 39 = .ok (.invokevirtual 345, 3) := by decide +kernel
theorem d_K_settle_42 : decode (ab_bc mt_K_settle) 42 = .ok (.return_, 1) := by decide +kernel
-- CableKeeper.settle()V over kx
theorem q_K_settle_0 {w : ab_Wd} {d n nc ns : Nat} {I : Nat → Nat → Int32} {L : Nat → Nat → Int64} {res : ab_Re}  (hc : nc ≤ res.2.2.2.2.2.1) (hs : ns ≤ res.2.2.2.2.2.2)
    (h : ∃ (I2 : Nat → Nat → Int32), ab_C w d mt_Forest_grow [.ref kx_forest, .ref kx_now_cables, .int (I kx_now_cables 2)] (I, L, ab_RR, n, nc, ns) (.inl none, (I2, L, ab_RR, n, nc, ns)) ∧ ∃ (I4 : Nat → Nat → Int32), ab_C w d mt_Ways_trace [.ref kx_ways, .ref kx_now_cables, .ref kx_forest] (I2, L, ab_RR, n, nc, ns) (.inl none, (I4, L, ab_RR, n, nc, ns)) ∧ res = (.inl none, (I4, L, ab_RR, n, nc, ns))) : ab_E w (d + 1) mt_K_settle 0 [.ref kx] [] (I, L, ab_RR, n, nc, ns) res := by
  refine ab_aload_n (i := 0) d_K_settle_0 rfl rfl ?_
  refine ab_getR (ci := 10) (k := 6) (j := kx_forest) d_K_settle_1 v_478 rfl (by decide) (by decide) rfl r_kx_6 ?_
  refine ab_aload_n (i := 0) d_K_settle_4 rfl rfl ?_
  refine ab_getR (ci := 10) (k := 3) (j := kx_now) d_K_settle_5 v_475 rfl (by decide) (by decide) rfl r_kx_3 ?_
  refine ab_getR (ci := 6) (k := 0) (j := kx_now_cables) d_K_settle_8 v_294 rfl (by decide) (by decide) rfl r_kx_now_0 ?_
  refine ab_aload_n (i := 0) d_K_settle_11 rfl rfl ?_
  refine ab_getR (ci := 10) (k := 3) (j := kx_now) d_K_settle_12 v_475 rfl (by decide) (by decide) rfl r_kx_3 ?_
  refine ab_getR (ci := 6) (k := 0) (j := kx_now_cables) d_K_settle_15 v_294 rfl (by decide) (by decide) rfl r_kx_now_0 ?_
  refine ab_getI (ci := 1) (k := 2) d_K_settle_18 v_202 rfl (by decide) (by decide) rfl ?_
  obtain ⟨I2, hC, h⟩ := h
  refine ab_callV (me2 := mt_Forest_grow) (b := kx_forest) (as := [.ref kx_now_cables, .int (I kx_now_cables 2)]) (st := []) (rv := none) (M2 := (I2, L, ab_RR, n, nc, ns)) d_K_settle_21 ce_Forest_grow v_440 v_441 v_442 (by decide) rfl (Nat.le_of_ble_eq_true rfl) hC (Nat.le_refl _) (Nat.le_refl _) hc hs (fun j h9 => by cases h9) (fun _ _ => rfl) ?_
  show ab_E w (d + 1) mt_K_settle 24 [.ref kx] [] (I2, L, ab_RR, n, nc, ns) res
  refine ab_aload_n (i := 0) d_K_settle_24 rfl rfl ?_
  refine ab_getR (ci := 10) (k := 7) (j := kx_ways) d_K_settle_25 v_479 rfl (by decide) (by decide) rfl r_kx_7 ?_
  refine ab_aload_n (i := 0) d_K_settle_28 rfl rfl ?_
  refine ab_getR (ci := 10) (k := 3) (j := kx_now) d_K_settle_29 v_475 rfl (by decide) (by decide) rfl r_kx_3 ?_
  refine ab_getR (ci := 6) (k := 0) (j := kx_now_cables) d_K_settle_32 v_294 rfl (by decide) (by decide) rfl r_kx_now_0 ?_
  refine ab_aload_n (i := 0) d_K_settle_35 rfl rfl ?_
  refine ab_getR (ci := 10) (k := 6) (j := kx_forest) d_K_settle_36 v_478 rfl (by decide) (by decide) rfl r_kx_6 ?_
  obtain ⟨I4, hC, h⟩ := h
  refine ab_callV (me2 := mt_Ways_trace) (b := kx_ways) (as := [.ref kx_now_cables, .ref kx_forest]) (st := []) (rv := none) (M2 := (I4, L, ab_RR, n, nc, ns)) d_K_settle_39 ce_Ways_trace v_453 v_454 v_455 (by decide) rfl (Nat.le_of_ble_eq_true rfl) hC (Nat.le_refl _) (Nat.le_refl _) hc hs (fun j h9 => by cases h9) (fun _ _ => rfl) ?_
  show ab_E w (d + 1) mt_K_settle 42 [.ref kx] [] (I4, L, ab_RR, n, nc, ns) res
  exact ab_vret d_K_settle_42 rfl h
